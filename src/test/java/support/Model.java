import java.util.ArrayList;
import java.util.Arrays;
import java.util.List;
import java.util.function.Consumer;

/**
 * The document told a second time, as plainly as it goes and with no eye on speed: what Openbook answers must be what
 * this one answers. It shares no code with it, and keeps turns as places in one line, and the log as calls.
 */
final class Model {
    static final int NONE = -100000;
    private static final Integer ANY = null;

    private static final class Order {
        int number;
        int account;
        int book;
        boolean buys;
        Integer limit;
        int lastDay;
        int rest;
        int show;
        int shown;
        boolean isPeg;
        boolean isStop;
        boolean isQuote;
        int offset;
        int trigger;
        boolean waits;
        boolean isLive = true;
        // Where it is booked; nothing if it waits or takes any price.
        Integer price;
        Trade cause;
        boolean hasTraded;

        boolean isBooked() {
            return isLive && !waits;
        }

        boolean allows(int at) {
            return limit == ANY || (buys ? at <= limit : at >= limit);
        }

        void showAnew() {
            shown = Math.min(show, rest);
        }
    }

    private static final class Trade {
        int book;
        int buyer;
        int seller;
        int price;
        int lots;
        boolean isBusted;
        boolean isForgotten;
    }

    private final List<Consumer<Model>> log = new ArrayList<>();
    private int kept;

    // All that was booked, in the order of the turns.
    private List<Order> line;
    private List<Order> all;
    private List<Trade> trades;
    private int numbers;
    private int now;
    private int day;
    private int[] last;
    private int[] reference;
    private Integer[] end;
    private int[] freeze;
    private boolean[] isExtended;
    private int[][] rule;
    private int[] band;
    private int[][] positions;
    private long[] cash;
    private int[][] limits;
    private int[] protection;
    private int[] fallen;
    private boolean[] isTaken;
    private int[] quoted;
    private int[][] moves;
    private int haircut;
    private int[] money;
    private int[] units;
    private int[] fund;
    private boolean[] hasFailed;
    private Integer open;
    private Integer[] bids;
    private int stake;

    Model() {
        begin();
    }

    private void begin() {
        line = new ArrayList<>();
        all = new ArrayList<>();
        trades = new ArrayList<>();
        numbers = 0;
        now = 0;
        day = 0;
        last = new int[] {100, 100, 100, 100, 0, 0};
        reference = last.clone();
        end = new Integer[6];
        freeze = new int[6];
        isExtended = new boolean[6];
        rule = new int[6][3];
        band = new int[6];
        positions = new int[9][4];
        cash = new long[9];
        limits = new int[8][4];
        for (int[] row : limits) {
            Arrays.fill(row, 999);
        }
        protection = new int[8];
        fallen = new int[8];
        isTaken = new boolean[8];
        quoted = new int[8];
        moves = new int[4][4];
        haircut = 0;
        money = new int[4];
        units = new int[4];
        fund = new int[] {200, 200, 200, 200};
        hasFailed = new boolean[4];
        open = null;
        bids = new Integer[4];
        stake = 500;
    }

    // ---- what is thrown, and the log

    private static void there(boolean is) {
        if (!is) {
            throw new IndexOutOfBoundsException();
        }
    }

    private static void right(boolean is) {
        if (!is) {
            throw new IllegalArgumentException();
        }
    }

    private static void fits(boolean is) {
        if (!is) {
            throw new IllegalStateException();
        }
    }

    private static boolean in(int value, int least, int most) {
        return least <= value && value <= most;
    }

    private static boolean isPrice(int book, int price) {
        return in(price, book < 4 ? 1 : -9999, 9999);
    }

    private static boolean isQuantity(int quantity) {
        return in(quantity, -50, 50) && quantity != 0;
    }

    private void event(Consumer<Model> call) {
        log.add(call);
        call.accept(this);
        work();
    }

    int keep() {
        kept = log.size();
        return kept;
    }

    int failOver() {
        int lost = log.size() - kept;
        List<Consumer<Model>> calls = new ArrayList<>(log.subList(0, kept));
        begin();
        log.clear();
        for (Consumer<Model> call : calls) {
            event(call);
        }
        return lost;
    }

    int events() {
        return log.size();
    }

    // ---- orders

    private int[][] contractsOf(int book) {
        return book < 4 ? new int[][] {{book, 1}} : new int[][] {{book - 4, 1}, {book - 3, -1}};
    }

    private List<Order> live() {
        List<Order> live = new ArrayList<>();
        for (Order order : all) {
            if (order.isLive) {
                live.add(order);
            }
        }
        return live;
    }

    private boolean isRefused(int account, int book, int quantity) {
        for (int[] contract : contractsOf(book)) {
            int way = Integer.signum(quantity) * contract[1];
            int sum = positions[account][contract[0]] * way + Math.abs(quantity);
            for (Order order : live()) {
                for (int[] other : contractsOf(order.book)) {
                    if (order.account == account && other[0] == contract[0] && (order.buys ? 1 : -1) * other[1] == way) {
                        sum += order.rest;
                    }
                }
            }
            if (sum > limits[account][contract[0]]) {
                return true;
            }
        }
        return false;
    }

    private void admit(int account, int book, int quantity) {
        fits(!hasFailed[account / 2] && live().size() < 40 && !isRefused(account, book, quantity));
    }

    private Order tell(int account, int book, Integer limit, int quantity, int lastDay) {
        Order order = new Order();
        order.number = numbers++;
        order.account = account;
        order.book = book;
        order.buys = quantity > 0;
        order.limit = limit;
        order.lastDay = lastDay;
        order.rest = Math.abs(quantity);
        order.show = order.rest;
        all.add(order);
        return order;
    }

    private void goes(Order order) {
        order.isLive = false;
        line.remove(order);
    }

    private void stands(Order order, Integer price) {
        order.waits = false;
        order.price = price;
        order.showAnew();
        line.remove(order);
        line.add(order);
    }

    private void waits(Order order) {
        order.waits = true;
        order.price = null;
        line.remove(order);
    }

    private void enters(Order order) {
        if (end[order.book] != null) {
            stands(order, order.limit);
        } else {
            match(order);
        }
    }

    int limit(int account, int book, int price, int quantity, int least, int life) {
        there(in(account, 0, 7) && in(book, 0, 5));
        right(isPrice(book, price) && isQuantity(quantity) && in(least, 0, Math.abs(quantity))
                && (in(life, 0, 9) || life == NONE));
        admit(account, book, quantity);
        fits(end[book] == null || life != NONE && least == 0);
        int number = numbers;
        event(x -> {
            Order order = x.tell(account, book, price, quantity, life == NONE ? NONE : x.day + life);
            if (least > 0 && x.reachable(order) < least) {
                x.goes(order);
            } else {
                x.enters(order);
            }
        });
        return number;
    }

    private int reachable(Order order) {
        int sum = 0;
        for (Order other : line) {
            if (other.book == order.book && other.buys != order.buys && other.account / 2 != order.account / 2
                    && order.allows(other.price) && !isBeyond(order.book, other.price)) {
                sum += other.rest;
            }
        }
        return sum;
    }

    int market(int account, int book, int quantity) {
        there(in(account, 0, 7) && in(book, 0, 5));
        right(isQuantity(quantity));
        admit(account, book, quantity);
        int number = numbers;
        event(x -> x.enters(x.tell(account, book, ANY, quantity, x.day)));
        return number;
    }

    int iceberg(int account, int book, int price, int quantity, int show) {
        there(in(account, 0, 7) && in(book, 0, 5));
        right(isPrice(book, price) && isQuantity(quantity) && in(show, 1, Math.abs(quantity)));
        admit(account, book, quantity);
        int number = numbers;
        event(x -> {
            Order order = x.tell(account, book, price, quantity, x.day);
            order.show = show;
            x.enters(order);
        });
        return number;
    }

    int peg(int account, int book, int price, int quantity, int offset) {
        there(in(account, 0, 7) && in(book, 0, 5));
        right(isPrice(book, price) && isQuantity(quantity) && in(offset, 0, 99));
        admit(account, book, quantity);
        int number = numbers;
        event(x -> {
            Order order = x.tell(account, book, price, quantity, x.day);
            order.isPeg = true;
            order.offset = offset;
            order.waits = true;
        });
        return number;
    }

    int stop(int account, int book, int trigger, int price, int quantity) {
        there(in(account, 0, 7) && in(book, 0, 3));
        right(in(trigger, 1, 9999) && in(price, 0, 9999) && isQuantity(quantity));
        admit(account, book, quantity);
        int number = numbers;
        event(x -> {
            Order order = x.tell(account, book, price == 0 ? ANY : Integer.valueOf(price), quantity, x.day);
            order.isStop = true;
            order.trigger = trigger;
            order.waits = true;
        });
        return number;
    }

    int quote(int account, int book, int bid, int ask, int quantity) {
        there(in(account, 0, 7) && in(book, 0, 5));
        right(isPrice(book, bid) && isPrice(book, ask) && ask > bid && in(quantity, 1, 50));
        fits(live().size() <= 38);
        admit(account, book, quantity);
        admit(account, book, -quantity);
        int number = numbers;
        event(x -> {
            for (Order order : x.live()) {
                if (order.isQuote && order.account == account && order.book == book) {
                    x.goes(order);
                }
            }
            x.fallen[account] = 0;
            x.isTaken[account] = false;
            Order toBuy = x.tell(account, book, bid, quantity, x.day);
            toBuy.isQuote = true;
            x.enters(toBuy);
            if (x.isTaken[account]) {
                x.numbers++;
                return;
            }
            Order toSell = x.tell(account, book, ask, -quantity, x.day);
            toSell.isQuote = true;
            x.enters(toSell);
        });
        return number;
    }

    private Order found(int number) {
        for (Order order : all) {
            if (order.isLive && order.number == number) {
                return order;
            }
        }
        throw new IndexOutOfBoundsException();
    }

    int cancel(int number) {
        Order order = found(number);
        Integer ends = end[order.book];
        fits(ends == null || ends - now > freeze[order.book]);
        int rest = order.rest;
        event(x -> x.goes(x.found(number)));
        return rest;
    }

    // ---- matching

    private boolean isBeyond(int book, int price) {
        return band[book] > 0 && Math.abs(price - reference[book]) > band[book];
    }

    private void beginAuction(int book, int ticks, int frozen) {
        end[book] = now + ticks;
        freeze[book] = frozen;
        isExtended[book] = false;
    }

    private Integer bestOf(int book, boolean buys, boolean withPegs) {
        Integer best = null;
        for (Order order : line) {
            if (order.book == book && order.buys == buys && order.price != null && (withPegs || !order.isPeg)
                    && (best == null || (buys ? order.price > best : order.price < best))) {
                best = order.price;
            }
        }
        return best;
    }

    private List<Order> at(int book, boolean buys, int price) {
        List<Order> there = new ArrayList<>();
        for (Order order : line) {
            if (order.book == book && order.buys == buys && order.price != null && order.price == price) {
                there.add(order);
            }
        }
        return there;
    }

    private void match(Order order) {
        int book = order.book;
        while (order.isLive && order.rest > 0) {
            Integer best = bestOf(book, !order.buys, true);
            if (best == null || !order.allows(best)) {
                break;
            }
            if (isBeyond(book, best)) {
                beginAuction(book, 5, 0);
                break;
            }
            List<Order> there = at(book, !order.buys, best);
            List<Order> own = new ArrayList<>(there);
            own.removeIf(other -> other.account / 2 != order.account / 2);
            if (rule[book][2] == 1 && !own.isEmpty()) {
                goes(order);
                return;
            }
            if (rule[book][2] == 2 && !own.isEmpty()) {
                own.forEach(this::goes);
                continue;
            }
            shareOut(order, there, best);
        }
        if (!order.isLive) {
            return;
        }
        if (order.limit == ANY || order.lastDay == NONE) {
            goes(order);
        } else {
            stands(order, order.limit);
        }
    }

    private void shareOut(Order order, List<Order> there, int price) {
        int kind = rule[order.book][0];
        if (kind == 2) {
            there.sort((one, other) -> other.shown - one.shown);
        }
        int[] gets = kind == 1 ? shares(order.rest, rule[order.book][1], there) : inTurn(order.rest, there);
        for (int k = 0; k < gets.length; k++) {
            Order other = there.get(k);
            if (gets[k] > 0 && other.isLive && order.isLive) {
                meet(order, other, price, gets[k]);
                if (other.isLive && other.shown == 0) {
                    stands(other, other.price);
                }
            }
        }
    }

    private static int[] inTurn(int rest, List<Order> there) {
        int[] gets = new int[there.size()];
        for (int k = 0; k < gets.length; k++) {
            gets[k] = Math.min(rest, there.get(k).shown);
            rest -= gets[k];
        }
        return gets;
    }

    private static int[] shares(int rest, int top, List<Order> there) {
        int[] gets = new int[there.size()];
        gets[0] = Math.min(Math.min(rest, top), there.get(0).shown);
        int then = rest - gets[0];
        int together = -gets[0];
        for (Order other : there) {
            together += other.shown;
        }
        int left = Math.min(then, together);
        for (int k = 0; k < gets.length && together > 0; k++) {
            int yet = there.get(k).shown - (k == 0 ? gets[0] : 0);
            int part = then > together ? yet : then * yet / together;
            gets[k] += part;
            left -= part;
        }
        while (left > 0) {
            for (int k = 0; k < gets.length; k++) {
                if (left > 0 && gets[k] < there.get(k).shown) {
                    gets[k]++;
                    left--;
                }
            }
        }
        return gets;
    }

    private void meet(Order one, Order other, int price, int lots) {
        Order buyer = one.buys ? one : other;
        Order seller = one.buys ? other : one;
        record(one.book, buyer.account, seller.account, price, lots);
        falls(one, lots);
        falls(other, lots);
        protect(one, lots);
        protect(other, lots);
    }

    private void record(int book, int buyer, int seller, int price, int lots) {
        Trade trade = new Trade();
        trade.book = book;
        trade.buyer = buyer;
        trade.seller = seller;
        trade.price = price;
        trade.lots = lots;
        trades.add(trade);
        last[book] = price;
        moveTo(trade, buyer, 1);
        moveTo(trade, seller, -1);
    }

    private void moveTo(Trade trade, int account, int sign) {
        for (int[] contract : contractsOf(trade.book)) {
            positions[account][contract[0]] += sign * contract[1] * trade.lots;
        }
        cash[account] -= (long) sign * trade.lots * trade.price;
    }

    private void falls(Order order, int lots) {
        order.rest -= lots;
        order.shown = Math.max(0, order.shown - lots);
        order.hasTraded = true;
        if (order.rest == 0) {
            goes(order);
        }
    }

    private void protect(Order order, int lots) {
        if (!order.isQuote) {
            return;
        }
        fallen[order.account] += lots;
        if (protection[order.account] > 0 && fallen[order.account] >= protection[order.account]) {
            isTaken[order.account] = true;
            for (Order other : live()) {
                if (other.isQuote && other.account == order.account) {
                    goes(other);
                }
            }
        }
    }

    // ---- WORK

    private void work() {
        while (triggers() || combines()) {
            continue;
        }
        for (Order peg : live()) {
            if (peg.isPeg) {
                reprice(peg);
            }
        }
    }

    private boolean triggers() {
        for (Order stop : live()) {
            boolean isDue = stop.isStop && stop.waits && end[stop.book] == null
                    && (stop.buys ? last[stop.book] >= stop.trigger : last[stop.book] <= stop.trigger);
            if (isDue) {
                stop.cause = latest(stop.book);
                stop.waits = false;
                match(stop);
                return true;
            }
        }
        return false;
    }

    private void reprice(Order peg) {
        Integer best = end[peg.book] != null ? null : bestOf(peg.book, peg.buys, false);
        Integer price = null;
        if (best != null) {
            price = peg.buys ? Math.min(peg.limit, best - peg.offset) : Math.max(peg.limit, best + peg.offset);
        }
        if (price == null || !isPrice(peg.book, price)) {
            waits(peg);
        } else if (!price.equals(peg.price)) {
            stands(peg, price);
        }
    }

    private Order first(int book, boolean buys) {
        Integer best = bestOf(book, buys, false);
        if (best != null) {
            for (Order order : at(book, buys, best)) {
                if (!order.isPeg) {
                    return order;
                }
            }
        }
        return null;
    }

    private boolean combines() {
        for (int spread = 4; spread <= 5; spread++) {
            for (int side = 1; side >= -1; side -= 2) {
                if (pair(spread, side)) {
                    return true;
                }
            }
        }
        return chain(1) || chain(-1);
    }

    private boolean areOpen(int... books) {
        for (int book : books) {
            if (end[book] != null) {
                return false;
            }
        }
        return true;
    }

    private boolean mayTrade(int book, int price, Order one, Order other) {
        return isPrice(book, price) && !isBeyond(book, price)
                && (rule[book][2] == 0 || one.account / 2 != other.account / 2);
    }

    private void trade(int book, int price, int lots, int side, Order buyer, Order seller) {
        record(book, side > 0 ? buyer.account : seller.account, side > 0 ? seller.account : buyer.account, price, lots);
    }

    private boolean pair(int spread, int side) {
        int near = spread - 4;
        int far = spread - 3;
        Order s = first(spread, side > 0);
        Order p = first(near, side < 0);
        Order q = first(far, side > 0);
        if (!areOpen(spread, near, far) || s == null || p == null || q == null
                || side * (s.price - (p.price - q.price)) < 0
                || !mayTrade(near, p.price, s, p) || !mayTrade(far, q.price, s, q)) {
            return false;
        }
        int lots = Math.min(s.shown, Math.min(p.shown, q.shown));
        trade(near, p.price, lots, side, s, p);
        trade(far, q.price, lots, side, q, s);
        fallAll(lots, s, p, q);
        return true;
    }

    private boolean chain(int side) {
        Order s = first(4, side > 0);
        Order t = first(5, side > 0);
        Order p = first(0, side < 0);
        Order q = first(2, side > 0);
        if (!areOpen(0, 1, 2, 4, 5) || s == null || t == null || p == null || q == null
                || side * (s.price + t.price - (p.price - q.price)) < 0) {
            return false;
        }
        int between = t.price + q.price;
        if (!mayTrade(0, p.price, s, p) || !mayTrade(1, between, t, s) || !mayTrade(2, q.price, q, t)) {
            return false;
        }
        int lots = Math.min(Math.min(s.shown, t.shown), Math.min(p.shown, q.shown));
        trade(0, p.price, lots, side, s, p);
        trade(1, between, lots, side, t, s);
        trade(2, q.price, lots, side, q, t);
        fallAll(lots, s, t, p, q);
        return true;
    }

    private void fallAll(int lots, Order... orders) {
        for (Order order : orders) {
            falls(order, lots);
        }
        for (Order order : orders) {
            protect(order, lots);
        }
        for (Order order : orders) {
            if (order.isLive && order.shown == 0) {
                stands(order, order.price);
            }
        }
    }

    // ---- rules

    int setRule(int book, int kind, int top, int self) {
        there(in(book, 0, 5));
        right(in(kind, 0, 2) && in(top, 0, 50) && in(self, 0, 2));
        int before = rule[book][0];
        event(x -> x.rule[book] = new int[] {kind, top, self});
        return before;
    }

    int setBand(int book, int width) {
        there(in(book, 0, 5));
        right(in(width, 0, 9999));
        int before = band[book];
        event(x -> x.band[book] = width);
        return before;
    }

    int setProtection(int account, int lots) {
        there(in(account, 0, 7));
        right(in(lots, 0, 999));
        int before = protection[account];
        event(x -> x.protection[account] = lots);
        return before;
    }

    int setLimit(int account, int contract, int most) {
        there(in(account, 0, 7) && in(contract, 0, 3));
        right(in(most, 0, 999));
        int before = limits[account][contract];
        event(x -> x.limits[account][contract] = most);
        return before;
    }

    // ---- time

    int auction(int book, int ticks, int frozen, int extra) {
        there(in(book, 0, 5));
        right(in(ticks, 1, 20) && in(frozen, 0, ticks) && in(extra, 0, 9));
        fits(end[book] == null);
        event(x -> x.beginAuction(book, ticks + extra, frozen));
        return end[book];
    }

    int pass(int ticks) {
        right(in(ticks, 1, 20));
        event(x -> {
            for (int tick = 0; tick < ticks; tick++) {
                x.tick();
            }
        });
        return now;
    }

    private void tick() {
        now++;
        for (int account = 0; account < 8; account++) {
            for (int book = 0; book < 6; book++) {
                int sides = 0;
                for (Order order : live()) {
                    if (order.isQuote && order.account == account && order.book == book) {
                        sides |= order.buys ? 1 : 2;
                    }
                }
                quoted[account] += sides == 3 && end[book] == null ? 1 : 0;
            }
        }
        for (int book = 0; book < 6; book++) {
            if (end[book] != null && end[book] == now) {
                endAuction(book);
            }
        }
    }

    private int couldTrade(int book, boolean buys, int price) {
        int sum = 0;
        for (Order order : line) {
            if (order.book == book && order.buys == buys && order.allows(price)) {
                sum += order.rest;
            }
        }
        return sum;
    }

    private int volume(int book, int price) {
        return Math.min(couldTrade(book, true, price), couldTrade(book, false, price));
    }

    private Integer auctionPrice(int book) {
        List<int[]> rows = new ArrayList<>();
        for (Order order : line) {
            if (order.book == book && order.limit != ANY) {
                int price = order.limit;
                int over = Math.abs(couldTrade(book, true, price) - couldTrade(book, false, price));
                rows.add(new int[] {-volume(book, price), over, Math.abs(price - reference[book]), price});
            }
        }
        rows.sort(Arrays::compare);
        int price = rows.isEmpty() ? reference[book] : rows.get(0)[3];
        return volume(book, price) == 0 ? null : Integer.valueOf(price);
    }

    private Order firstInAuction(int book, boolean buys, int price) {
        Order first = null;
        for (Order order : line) {
            if (order.book != book || order.buys != buys || !order.allows(price)) {
                continue;
            }
            if (first == null || order.limit == ANY && first.limit != ANY || order.limit != ANY && first.limit != ANY
                    && (buys ? order.limit > first.limit : order.limit < first.limit)) {
                first = order;
            }
        }
        return first;
    }

    private void endAuction(int book) {
        Integer price = auctionPrice(book);
        if (price != null && isBeyond(book, price) && !isExtended[book]) {
            isExtended[book] = true;
            end[book] = now + 5;
            return;
        }
        while (price != null) {
            Order buyer = firstInAuction(book, true, price);
            Order seller = firstInAuction(book, false, price);
            if (buyer == null || seller == null) {
                break;
            }
            meet(buyer, seller, price, Math.min(buyer.rest, seller.rest));
        }
        if (price != null) {
            reference[book] = price;
        }
        end[book] = null;
        for (Order order : live()) {
            if (order.book == book && order.isBooked()) {
                order.showAnew();
                if (order.limit == ANY) {
                    goes(order);
                }
            }
        }
        work();
    }

    int endDay() {
        fits(areOpen(0, 1, 2, 3, 4, 5));
        int before = live().size();
        int stay = 0;
        for (Order order : live()) {
            stay += order.lastDay > day ? 1 : 0;
        }
        event(x -> {
            for (Order order : x.live()) {
                if (order.lastDay <= x.day) {
                    x.goes(order);
                }
            }
            x.reference = x.last.clone();
            x.day++;
        });
        return before - stay;
    }

    // ---- later

    private boolean isKept(int trade) {
        return in(trade, Math.max(0, trades.size() - 60), trades.size() - 1) && !trades.get(trade).isForgotten;
    }

    private Trade latest(int book) {
        for (int trade = trades.size() - 1; trade >= 0; trade--) {
            Trade one = trades.get(trade);
            if (isKept(trade) && one.book == book && !one.isBusted) {
                return one;
            }
        }
        return null;
    }

    int bust(int number) {
        there(isKept(number));
        fits(!trades.get(number).isBusted);
        int book = trades.get(number).book;
        int[] then = new int[1];
        event(x -> {
            Trade trade = x.trades.get(number);
            boolean isLatest = x.latest(book) == trade;
            trade.isBusted = true;
            x.moveTo(trade, trade.buyer, -1);
            x.moveTo(trade, trade.seller, 1);
            Trade latest = x.latest(book);
            if (isLatest) {
                x.last[book] = latest == null ? x.reference[book] : latest.price;
            }
            then[0] = x.last[book];
            for (Order order : x.live()) {
                if (order.isStop && order.isBooked() && order.cause == trade && !order.hasTraded) {
                    x.waits(order);
                }
            }
        });
        return then[0];
    }

    int adjust(int number, int price) {
        there(isKept(number));
        right(isPrice(trades.get(number).book, price));
        fits(!trades.get(number).isBusted);
        int before = trades.get(number).price;
        event(x -> {
            Trade trade = x.trades.get(number);
            x.moveTo(trade, trade.buyer, -1);
            x.moveTo(trade, trade.seller, 1);
            trade.price = price;
            x.moveTo(trade, trade.buyer, 1);
            x.moveTo(trade, trade.seller, -1);
            if (x.latest(trade.book) == trade) {
                x.last[trade.book] = price;
            }
        });
        return before;
    }

    int giveUp(int number, boolean isBuyer, int to) {
        there(isKept(number) && in(to, 0, 7));
        Trade one = trades.get(number);
        fits(!one.isBusted && one.buyer != to && one.seller != to);
        int before = isBuyer ? one.buyer : one.seller;
        event(x -> {
            Trade trade = x.trades.get(number);
            x.moveTo(trade, before, isBuyer ? -1 : 1);
            x.moveTo(trade, to, isBuyer ? 1 : -1);
            if (isBuyer) {
                trade.buyer = to;
            } else {
                trade.seller = to;
            }
        });
        return before;
    }

    private Integer average(int account, int contract, boolean asBuyer) {
        long worth = 0;
        long lots = 0;
        for (int number = 0; number < trades.size(); number++) {
            Trade trade = trades.get(number);
            if (isKept(number) && !trade.isBusted && trade.book == contract
                    && (asBuyer ? trade.buyer : trade.seller) == account) {
                worth += (long) trade.price * trade.lots;
                lots += trade.lots;
            }
        }
        return lots == 0 ? null : Integer.valueOf((int) (worth / lots));
    }

    int allot(int account, int to, int contract, int quantity) {
        there(in(account, 0, 7) && in(to, 0, 7) && in(contract, 0, 3));
        right(account != to && quantity != 0 && in(quantity, -999, 999));
        int position = positions[account][contract];
        Integer average = average(account, contract, quantity > 0);
        fits(average != null && (quantity > 0 ? position >= quantity : position <= quantity));
        int price = average;
        event(x -> {
            x.positions[account][contract] -= quantity;
            x.positions[to][contract] += quantity;
            x.cash[account] += (long) quantity * price;
            x.cash[to] -= (long) quantity * price;
        });
        return price;
    }

    int exercise(int account, int quantity, int draw) {
        there(in(account, 0, 8));
        right(in(quantity, 1, 99) && in(draw, 0, 7874));
        fits(positions[account][3] >= quantity);
        int[] latest = new int[1];
        event(x -> {
            x.positions[account][3] -= quantity;
            x.positions[account][0] += quantity;
            x.cash[account] -= 100L * quantity;
            int number = draw;
            for (int lot = 0; lot < quantity; lot++) {
                number = (421 * number + 1663) % 7875;
                List<Integer> ofShorts = new ArrayList<>();
                for (int other = 0; other < 9; other++) {
                    for (int lacks = 0; lacks < -x.positions[other][3]; lacks++) {
                        ofShorts.add(other);
                    }
                }
                latest[0] = ofShorts.get(number % ofShorts.size());
                x.positions[latest[0]][3]++;
                x.positions[latest[0]][0]--;
                x.cash[latest[0]] += 100;
            }
        });
        return latest[0];
    }

    int convert(int contract, int numerator, int denominator) {
        there(in(contract, 0, 2));
        right(in(numerator, 1, 9) && in(denominator, 1, 9));
        for (int account = 0; account < 8; account++) {
            fits(Math.abs((long) positions[account][contract] * numerator / denominator) <= 1000000);
        }
        int[] gone = new int[1];
        event(x -> {
            for (Order order : x.live()) {
                if (x.isWith(order.book, contract)) {
                    x.goes(order);
                    gone[0]++;
                }
            }
            x.trades.forEach(trade -> trade.isForgotten |= x.isWith(trade.book, contract));
            x.last[contract] = Math.min(9999, Math.max(1, x.last[contract] * denominator / numerator));
            x.reference[contract] = Math.min(9999, Math.max(1, x.reference[contract] * denominator / numerator));
            int sum = 0;
            for (int account = 0; account < 8; account++) {
                long times = (long) x.positions[account][contract] * numerator;
                x.positions[account][contract] = (int) (times / denominator);
                sum += x.positions[account][contract];
                long away = times - (long) x.positions[account][contract] * denominator;
                long paid = Math.floorDiv(away * x.last[contract], (long) denominator);
                x.cash[account] += paid;
                x.cash[8] -= paid;
            }
            x.positions[8][contract] = -sum;
        });
        return gone[0];
    }

    private boolean isWith(int book, int contract) {
        for (int[] one : contractsOf(book)) {
            if (one[0] == contract) {
                return true;
            }
        }
        return false;
    }

    // ---- margin and defaults

    int setMove(int scenario, int contract, int move) {
        there(in(scenario, 0, 3) && in(contract, 0, 3));
        right(in(move, -99, 99));
        int before = moves[scenario][contract];
        event(x -> x.moves[scenario][contract] = move);
        return before;
    }

    int setHaircut(int percent) {
        right(in(percent, 0, 100));
        int before = haircut;
        event(x -> x.haircut = percent);
        return before;
    }

    private long net(int member, int contract) {
        return (long) positions[2 * member][contract] + positions[2 * member + 1][contract];
    }

    private long risk(int member) {
        long greatest = 0;
        for (int[] row : moves) {
            long sum = (long) units[member] * row[1];
            for (int contract = 0; contract < 4; contract++) {
                sum += net(member, contract) * row[contract];
            }
            greatest = Math.max(greatest, -sum);
        }
        for (int contract = 0; contract < 4; contract++) {
            greatest += 5 * Math.max(0, Math.abs(net(member, contract)) - 30);
        }
        return greatest;
    }

    private long worth(int member) {
        long worth = 0;
        for (int contract = 0; contract < 4; contract++) {
            worth += net(member, contract) * last[contract];
        }
        return worth;
    }

    private long value(int member) {
        return cash[2 * member] + cash[2 * member + 1] + worth(member);
    }

    private long call(int member) {
        long collateral = money[member] + (long) units[member] * last[1] * (100 - haircut) / 100;
        return Math.max(0, risk(member) - value(member) - collateral);
    }

    int pay(int member, int more, int moreUnits) {
        there(in(member, 0, 3));
        right(in(more, -9999, 9999) && in(moreUnits, -99, 99));
        fits(!hasFailed[member] && money[member] + more >= 0 && units[member] + moreUnits >= 0);
        money[member] += more;
        units[member] += moreUnits;
        long then = call(member);
        money[member] -= more;
        units[member] -= moreUnits;
        fits(then == 0 || more >= 0 && moreUnits >= 0);
        event(x -> {
            x.money[member] += more;
            x.units[member] += moreUnits;
        });
        return (int) then;
    }

    int setFund(int member, int amount) {
        there(in(member, 0, 3));
        right(in(amount, 0, 9999));
        fits(!hasFailed[member]);
        int before = fund[member];
        event(x -> x.fund[member] = amount);
        return before;
    }

    int fail(int member) {
        there(in(member, 0, 3));
        fits(!hasFailed[member] && call(member) > 0 && open == null);
        int[] gone = new int[1];
        event(x -> {
            x.hasFailed[member] = true;
            x.open = member;
            for (Order order : x.live()) {
                if (order.account / 2 == member) {
                    x.goes(order);
                    gone[0]++;
                }
            }
        });
        return gone[0];
    }

    int bid(int member, int amount) {
        there(in(member, 0, 3));
        right(in(amount, -9999, 9999));
        fits(open != null && !hasFailed[member]);
        event(x -> x.bids[member] = amount);
        int count = 0;
        for (Integer one : bids) {
            count += one == null ? 0 : 1;
        }
        return count;
    }

    int closeOut() {
        fits(open != null);
        int[] layer = new int[1];
        event(x -> layer[0] = x.close());
        return layer[0];
    }

    private int close() {
        int failed = open;
        int lower = 2 * failed;
        Integer winner = null;
        for (int member = 0; member < 4; member++) {
            if (bids[member] != null && (winner == null || bids[member] > bids[winner])) {
                winner = member;
            }
        }
        int taker = winner == null ? 8 : 2 * winner;
        long amount = winner == null ? worth(failed) : bids[winner];
        for (int contract = 0; contract < 4; contract++) {
            positions[taker][contract] += (int) net(failed, contract);
            positions[lower][contract] = 0;
            positions[lower + 1][contract] = 0;
        }
        cash[taker] -= amount;
        cash[lower] += cash[lower + 1] + amount;
        cash[lower + 1] = 0;
        int layer = cover(failed, winner);
        bids = new Integer[4];
        open = null;
        return layer;
    }

    private int cover(int failed, Integer winner) {
        int lower = 2 * failed;
        int[] before = fund.clone();
        int layer = 0;
        for (int next = 1; next <= 8 && cash[lower] < 0; next++) {
            long loss = -cash[lower];
            switch (next) {
                case 1:
                    money[failed] -= (int) pays(lower, Math.min(loss, money[failed]));
                    break;
                case 2:
                    while (cash[lower] < 0 && units[failed] > 0) {
                        units[failed]--;
                        cash[8] -= pays(lower, last[1]);
                    }
                    break;
                case 3:
                    fund[failed] -= (int) pays(lower, Math.min(loss, fund[failed]));
                    break;
                case 4:
                    stake -= (int) pays(lower, Math.min(loss, stake));
                    break;
                case 8:
                    cash[8] -= pays(lower, loss);
                    break;
                default:
                    long[] parts = new long[4];
                    for (int member = 0; member < 4; member++) {
                        boolean isJunior = bids[member] == null || bids[member] < bids[winner] - 100;
                        boolean gives = !hasFailed[member] && (next == 7 || isJunior == (next == 5));
                        parts[member] = !gives ? 0 : next == 7 ? before[member] : fund[member];
                    }
                    long[] given = shared(loss, parts);
                    for (int member = 0; member < 4; member++) {
                        if (next == 7) {
                            cash[2 * member] -= pays(lower, given[member]);
                        } else {
                            fund[member] -= (int) pays(lower, given[member]);
                        }
                    }
                    break;
            }
            layer = -cash[lower] < loss ? next : layer;
        }
        return layer;
    }

    private long pays(int lower, long amount) {
        cash[lower] += amount;
        return amount;
    }

    private static long[] shared(long loss, long[] parts) {
        long all = parts[0] + parts[1] + parts[2] + parts[3];
        if (loss >= all) {
            return parts.clone();
        }
        long[] given = new long[4];
        long left = loss;
        for (int member = 0; member < 4; member++) {
            given[member] = loss * parts[member] / all;
            left -= given[member];
        }
        while (left > 0) {
            for (int member = 0; member < 4; member++) {
                if (left > 0 && given[member] < parts[member]) {
                    given[member]++;
                    left--;
                }
            }
        }
        return given;
    }

    // ---- what is asked

    private static int orNone(Integer value) {
        return value == null ? NONE : value;
    }

    int best(int book, boolean toBuy) {
        there(in(book, 0, 5));
        return orNone(bestOf(book, toBuy, true));
    }

    int shown(int book, boolean toBuy, int price) {
        there(in(book, 0, 5));
        int sum = 0;
        for (Order order : at(book, toBuy, price)) {
            sum += order.shown;
        }
        return sum;
    }

    int stateOf(int number) {
        for (Order order : live()) {
            if (order.number == number) {
                return order.waits ? 2 : 1;
            }
        }
        return 0;
    }

    int rest(int number) {
        return found(number).rest;
    }

    int priceOf(int number) {
        return orNone(found(number).price);
    }

    int last(int book, boolean isReference) {
        there(in(book, 0, 5));
        return isReference ? reference[book] : last[book];
    }

    int endOf(int book) {
        there(in(book, 0, 5));
        return orNone(end[book]);
    }

    int indicated(int book, boolean quantity) {
        there(in(book, 0, 5));
        Integer price = end[book] == null ? null : auctionPrice(book);
        return !quantity ? orNone(price) : price == null ? 0 : volume(book, price);
    }

    int trades() {
        return trades.size();
    }

    int trade(int number, int what) {
        there(isKept(number));
        right(in(what, 0, 5));
        Trade trade = trades.get(number);
        return new int[] {trade.book, trade.buyer, trade.seller, trade.price, trade.lots, trade.isBusted ? 1 : 0}[what];
    }

    int position(int account, int contract) {
        there(in(account, 0, 8) && in(contract, 0, 3));
        return positions[account][contract];
    }

    long cash(int account) {
        there(in(account, 0, 8));
        return cash[account];
    }

    int quoted(int account) {
        there(in(account, 0, 7));
        return quoted[account];
    }

    long member(int member, int what) {
        there(in(member, 0, 3));
        right(in(what, 0, 6));
        return new long[] {risk(member), value(member), call(member), money[member], units[member], fund[member],
                hasFailed[member] ? 1 : 0}[what];
    }

    int stake() {
        return stake;
    }
}
