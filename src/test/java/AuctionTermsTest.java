import java.util.Random;

/** The terms on AUCTIONs and quotes, sentence by sentence: each at its edge. The parts are named by the sentences. */
public final class AuctionTermsTest {
    private static final int NONE = Openbook.NONE;
    private static final int GONE = Openbook.GONE, BOOKED = Openbook.BOOKED, WAITING = Openbook.WAITING;
    private static final Check check = new Check("AuctionTermsTest");

    private AuctionTermsTest() {
    }

    public static void main(String[] args) {
        collected();
        nearest();
        pricesByTheWords();
        withoutLimits();
        nothingCanTrade();
        extendedBeyondTheBand();
        extendedOnce();
        opened();
        icebergsShowAnew();
        byTurns();
        frozenTicks();
        frozenWhenExtended();
        frozenOrders();
        endsOfTicks();
        protectionsAtTheLot();
        protectionsOfTheNewOne();
        protectionsSinceTheLatest();
        goneByProtection();
        replacedQuotes();
        countedTicks();
        check.end();
    }

    private static void deal(Openbook x, int book, int buyer, int seller, int price, int lots) {
        x.limit(seller, book, price, -lots, 0, 0);
        x.limit(buyer, book, price, lots, 0, NONE);
    }

    // ---- AUCTIONs

    private static void collected() {
        check.part("in an AUCTION limits, icebergs and orders at any price are collected; stops and pegs wait");
        for (int book = 0; book < 6; book++) {
            for (int side = 1; side >= -1; side -= 2) {
                Openbook x = new Openbook();
                int price = book < 4 ? 100 : 0;
                x.auction(book, 3, 0, 0);
                x.limit(0, book, price, -4 * side, 0, 9);
                x.iceberg(1, book, price, -4 * side, 1);
                x.market(2, book, -4 * side);
                x.limit(4, book, price, 12 * side, 0, 0);
                x.peg(5, book, price, side, 0);
                check.is("no trade", x.trades(), 0);
                check.is("limit", x.stateOf(0), BOOKED);
                check.is("iceberg", x.stateOf(1), BOOKED);
                check.is("at any price", x.stateOf(2), BOOKED);
                check.is("peg", x.stateOf(4), WAITING);
                check.is("with the whole rests", x.indicated(book, true), 12);
                check.is("of icebergs what they show", x.shown(book, side < 0, price), 4 + 1);
                check.is("of no price", x.priceOf(2), NONE);
                if (book < 4) {
                    x.stop(6, book, 100, 0, side);
                    check.is("stop", x.stateOf(5), WAITING);
                }
            }
        }
    }

    private static void nearest() {
        check.part("then the nearest one to the reference; then the lowest");
        int[][] rows = {{90, 105, 105}, {95, 110, 95}, {95, 105, 95}, {90, 110, 90}, {100, 101, 100}, {99, 100, 100},
                {99, 101, 99}, {1, 200, 1}, {1, 199, 1}, {2, 199, 2}, {1, 198, 198}, {110, 120, 110}, {80, 90, 90}};
        for (int[] row : rows) {
            for (int first = 0; first < 2; first++) {
                Openbook x = new Openbook();
                x.auction(0, 5, 0, 0);
                if (first == 0) {
                    x.limit(2, 0, row[0], -5, 0, 0);
                    x.limit(0, 0, row[1], 5, 0, 0);
                } else {
                    x.limit(0, 0, row[1], 5, 0, 0);
                    x.limit(2, 0, row[0], -5, 0, 0);
                }
                check.is("of " + row[0] + " and " + row[1], x.indicated(0, false), row[2]);
                Openbook y = new Openbook();
                y.auction(4, 5, 0, 0);
                y.limit(2, 4, row[0] - 100, -5, 0, 0);
                y.limit(0, 4, row[1] - 100, 5, 0, 0);
                check.is("of a spread", y.indicated(4, false), row[2] - 100);
            }
        }
    }

    /** What a set of orders would trade at, word by word: quantity above 0 to buy; NONE is any price. */
    private static int priceOf(int[] prices, int[] lots, int reference) {
        int best = NONE;
        for (int price = -10000; price <= 10000; price++) {
            boolean isLimit = false;
            for (int one : prices) {
                isLimit |= one == price;
            }
            if (isLimit && (best == NONE || isBetter(prices, lots, reference, price, best))) {
                best = price;
            }
        }
        int price = best == NONE ? reference : best;
        return volume(prices, lots, price) > 0 ? price : NONE;
    }

    private static boolean isBetter(int[] prices, int[] lots, int reference, int one, int other) {
        int more = volume(prices, lots, one) - volume(prices, lots, other);
        if (more != 0) {
            return more > 0;
        }
        int less = Math.abs(sum(prices, lots, one, 1) - sum(prices, lots, one, -1))
                - Math.abs(sum(prices, lots, other, 1) - sum(prices, lots, other, -1));
        if (less != 0) {
            return less < 0;
        }
        int nearer = Math.abs(one - reference) - Math.abs(other - reference);
        return nearer != 0 ? nearer < 0 : one < other;
    }

    private static int volume(int[] prices, int[] lots, int price) {
        return Math.min(sum(prices, lots, price, 1), sum(prices, lots, price, -1));
    }

    private static int sum(int[] prices, int[] lots, int price, int side) {
        int sum = 0;
        for (int order = 0; order < prices.length; order++) {
            int lot = lots[order] * side;
            if (lot > 0 && (prices[order] == NONE || (side > 0 ? prices[order] >= price : prices[order] <= price))) {
                sum += lot;
            }
        }
        return sum;
    }

    private static void pricesByTheWords() {
        check.part("its price is, of all limits, the one at which most can trade; ..");
        Random random = new Random(1);
        for (int round = 0; round < 3000; round++) {
            int book = random.nextInt(6);
            int reference = book < 4 ? 100 : 0;
            int count = 1 + random.nextInt(8);
            int width = 1 + random.nextInt(6);
            Openbook x = new Openbook();
            x.auction(book, 1, 0, 0);
            int[] prices = new int[count];
            int[] lots = new int[count];
            for (int order = 0; order < count; order++) {
                lots[order] = (1 + random.nextInt(6)) * (random.nextBoolean() ? 1 : -1);
                prices[order] = random.nextInt(6) == 0 ? NONE : reference + random.nextInt(2 * width + 1) - width;
                if (prices[order] == NONE) {
                    x.market(order, book, lots[order]);
                } else if (random.nextInt(3) == 0) {
                    x.iceberg(order, book, prices[order], lots[order], 1);
                } else {
                    x.limit(order, book, prices[order], lots[order], 0, 0);
                }
            }
            int price = priceOf(prices, lots, reference);
            check.is("price of round " + round, x.indicated(book, false), price);
            int traded = price == NONE ? 0 : volume(prices, lots, price);
            check.is("how much in round " + round, x.indicated(book, true), traded);
            x.pass(1);
            int sum = 0;
            for (int trade = 0; trade < x.trades(); trade++) {
                check.is("traded at the price", x.trade(trade, 3), price);
                sum += x.trade(trade, 4);
            }
            check.is("all that can trade does", sum, traded);
            check.is("the reference", x.last(book, true), price == NONE ? reference : price);
        }
    }

    private static void withoutLimits() {
        check.part("if there are no limits, it is the reference");
        Openbook x = new Openbook();
        deal(x, 0, 0, 2, 107, 1);
        x.endDay();
        deal(x, 0, 0, 2, 109, 1);
        x.auction(0, 1, 0, 0);
        x.market(0, 0, 4);
        x.market(2, 0, -3);
        check.is("price", x.indicated(0, false), 107);
        check.is("how much", x.indicated(0, true), 3);
        x.pass(1);
        check.is("price", x.trade(2, 3), 107);
        check.is("last", x.last(0, false), 107);
        check.is("what is at any price is gone", x.stateOf(4), GONE);
    }

    private static void nothingCanTrade() {
        check.part("there is none, if nothing can trade");
        for (int side = 1; side >= -1; side -= 2) {
            Openbook x = new Openbook();
            x.auction(0, 1, 0, 0);
            x.market(0, 0, side);
            check.is("one side at any price", x.indicated(0, false), NONE);
            check.is("one side at any price", x.indicated(0, true), 0);
            x.limit(2, 0, 100, side, 0, 0);
            check.is("one side", x.indicated(0, false), NONE);
            x.limit(4, 0, 100 + side, -side, 0, 0);
            check.is("both meet at any price", x.indicated(0, true), 1);
            Openbook y = new Openbook();
            y.auction(0, 1, 0, 0);
            y.limit(2, 0, 100, side, 0, 0);
            y.limit(4, 0, 100 + side, -side, 0, 0);
            check.is("they do not meet", y.indicated(0, false), NONE);
            y.setBand(0, 1);
            y.pass(1);
            check.is("opened", y.endOf(0), NONE);
            check.is("the reference stays", y.last(0, true), 100);
            check.is("they stay", y.stateOf(0) + y.stateOf(1), 2 * BOOKED);
        }
    }

    private static void extendedBeyondTheBand() {
        check.part("if the price is farther from the reference than the band, it goes on for 5 ticks");
        for (int book = 0; book < 6; book++) {
            for (int by = 6; by <= 8; by++) {
                for (int side = 1; side >= -1; side -= 2) {
                    Openbook x = new Openbook();
                    x.setBand(book, 7);
                    x.pass(2);
                    x.auction(book, 1, 0, 2);
                    int price = (book < 4 ? 100 : 0) + by * side;
                    x.limit(0, book, price, 1, 0, 0);
                    x.limit(2, book, price, -1, 0, 0);
                    x.pass(3);
                    check.is("end by " + by, x.endOf(book), by <= 7 ? NONE : 10);
                    check.is("trades by " + by, x.trades(), by <= 7 ? 1 : 0);
                    x.pass(4);
                    check.is("end by " + by, x.endOf(book), by <= 7 ? NONE : 10);
                    x.pass(1);
                    check.is("ended", x.endOf(book), NONE);
                    check.is("traded", x.trade(0, 3), price);
                    check.is("the reference", x.last(book, true), price);
                }
            }
        }
        check.part("if there is one");
        Openbook x = new Openbook();
        x.auction(0, 1, 0, 0);
        x.limit(0, 0, 9999, 1, 0, 0);
        x.limit(2, 0, 9999, -1, 0, 0);
        x.pass(1);
        check.is("without a band it ends", x.trades(), 1);
    }

    private static void extendedOnce() {
        check.part("and it was not extended yet");
        Openbook x = new Openbook();
        x.setBand(0, 3);
        x.limit(0, 0, 104, -1, 0, 0);
        x.limit(2, 0, 104, 1, 0, 0);
        check.is("begun by the band", x.endOf(0), 5);
        x.pass(5);
        check.is("extended", x.endOf(0), 10);
        x.pass(5);
        check.is("ended", x.endOf(0), NONE);
        check.is("traded", x.trades(), 1);
        x.limit(0, 0, 108, -1, 0, 0);
        x.limit(2, 0, 108, 1, 0, 0);
        check.is("begun by the band from the new reference", x.endOf(0), 15);
        x.pass(5);
        check.is("the next one is extended, too", x.endOf(0), 20);
        x.setBand(0, 4);
        x.pass(4);
        check.is("not ahead of its end", x.trades(), 1);
        x.pass(1);
        check.is("ended", x.trades(), 2);
        Openbook y = new Openbook();
        y.setBand(0, 3);
        y.auction(0, 1, 0, 0);
        y.limit(0, 0, 104, 1, 0, 0);
        y.limit(2, 0, 104, -1, 0, 0);
        y.pass(1);
        check.state("it is in one yet", y, () -> y.auction(0, 1, 0, 0));
        y.cancel(0);
        y.pass(5);
        check.is("opened without a trade", y.endOf(0), NONE);
        check.is("the reference stays", y.last(0, true), 100);
    }

    private static void opened() {
        check.part("what is at any price is gone then, and the book is OPEN; WORK comes behind");
        Openbook x = new Openbook();
        x.limit(0, 0, 90, 1, 0, 0);
        x.peg(2, 0, 95, 1, 0);
        x.stop(4, 0, 103, 104, 1);
        x.auction(0, 2, 0, 0);
        check.is("the peg waits", x.stateOf(1), WAITING);
        x.market(0, 0, 2);
        x.market(0, 1, 2);
        x.limit(6, 0, 103, -1, 0, 0);
        x.pass(2);
        check.is("traded", x.trade(0, 3), 103);
        check.is("the rest at any price is gone", x.stateOf(3), GONE);
        check.is("the stop is triggered", x.priceOf(2), 104);
        check.is("the peg follows it", x.priceOf(1), 95);
        x.limit(6, 0, 104, -1, 0, 0);
        check.is("matched as in an OPEN book", x.trades(), 2);
    }

    private static void icebergsShowAnew() {
        check.part("icebergs show anew, without another turn");
        for (int traded = 0; traded < 5; traded++) {
            Openbook x = new Openbook();
            x.iceberg(0, 0, 100, -8, 4);
            x.limit(2, 0, 100, -5, 0, 0);
            x.limit(4, 0, 100, 3, 0, 0);
            check.is("shown", x.shown(0, false, 100), 1 + 5);
            x.auction(0, 1, 0, 0);
            check.is("as it showed", x.shown(0, false, 100), 1 + 5);
            if (traded > 0) {
                x.limit(4, 0, 100, traded, 0, 0);
            }
            x.pass(1);
            check.is("rest", x.rest(0), 5 - traded);
            check.is("shown", x.shown(0, false, 100), Math.min(4, 5 - traded) + 5);
            int trades = x.trades();
            x.limit(6, 0, 100, 1, 0, 0);
            check.is("its turn is first", x.trade(trades, 2), 0);
        }
    }

    private static void byTurns() {
        check.part("then by turns, which are not the numbers");
        for (int side = 1; side >= -1; side -= 2) {
            Openbook x = new Openbook();
            x.iceberg(7, 3, 100, -20, 1);
            x.limit(6, 3, 100, 20, 0, NONE);
            int trades = x.trades();
            x.auction(0, 1, 0, 0);
            for (int account = 0; account < 5; account++) {
                x.limit(account, 0, 100, side, 0, 0);
            }
            for (int account = 0; account < 5; account++) {
                x.market(account, 0, side);
            }
            x.limit(6, 0, 100, -10 * side, 0, 0);
            x.pass(1);
            check.is("trades", x.trades(), trades + 10);
            for (int k = 0; k < 10; k++) {
                check.is("trade " + k, x.trade(trades + k, side > 0 ? 1 : 2), k % 5);
            }
            check.is("all of them", x.best(0, side > 0), NONE);
        }
    }

    private static void frozenTicks() {
        check.part("freeze: how many of its ticks at the end are frozen");
        for (int ticks = 1; ticks <= 4; ticks++) {
            for (int freeze = 0; freeze <= ticks; freeze++) {
                for (int extra = 0; extra <= 2; extra++) {
                    Openbook x = new Openbook();
                    x.pass(3);
                    for (int order = 0; order < 10; order++) {
                        x.limit(0, 0, 90, 1, 0, 0);
                    }
                    int end = x.auction(0, ticks, freeze, extra);
                    check.is("end", end, 3 + ticks + extra);
                    for (int left = ticks + extra; left > 0; left--) {
                        int order = left;
                        if (left <= freeze) {
                            check.state(left + " left of " + freeze + " frozen", x, () -> x.cancel(order));
                        } else {
                            check.is(left + " left of " + freeze + " frozen", x.cancel(order), 1);
                        }
                        x.pass(1);
                    }
                    check.is("OPEN", x.endOf(0), NONE);
                    check.is("not frozen any more", x.cancel(0), 1);
                }
            }
        }
    }

    private static void frozenWhenExtended() {
        check.part("also when it was extended");
        for (int freeze = 0; freeze <= 7; freeze++) {
            Openbook x = new Openbook();
            x.setBand(0, 1);
            x.auction(0, 7, freeze, 0);
            x.limit(0, 0, 102, 1, 0, 0);
            x.limit(2, 0, 102, -1, 0, 0);
            for (int order = 2; order < 9; order++) {
                x.limit(4, 0, 50, 1, 0, 0);
            }
            x.pass(7);
            check.is("end", x.endOf(0), 12);
            for (int left = 5; left > 0; left--) {
                int order = left + 2;
                if (left <= freeze) {
                    check.state(left + " left of " + freeze + " frozen", x, () -> x.cancel(order));
                } else {
                    check.is(left + " left of " + freeze + " frozen", x.cancel(order), 1);
                }
                x.pass(1);
            }
            check.is("traded", x.trades(), 1);
        }
    }

    private static void frozenOrders() {
        check.part("cancel throws alone; orders can be told in frozen ticks, and quotes replaced");
        Openbook x = new Openbook();
        x.stop(0, 0, 900, 0, 1);
        x.peg(0, 0, 50, 1, 0);
        x.limit(0, 1, 50, 1, 0, 0);
        x.limit(0, 4, 50, 1, 0, 0);
        x.auction(0, 1, 1, 0);
        check.is("limit", x.limit(0, 0, 90, 1, 0, 0), 4);
        check.is("market", x.market(0, 0, 1), 5);
        check.is("quote", x.quote(0, 0, 50, 60, 1), 6);
        check.is("quote", x.quote(0, 0, 50, 60, 1), 8);
        check.is("the quote before is gone", x.stateOf(6), GONE);
        for (int order : new int[] {0, 1, 4, 5, 8, 9}) {
            check.state("order " + order, x, () -> x.cancel(order));
        }
        check.is("of another book", x.cancel(2), 1);
        check.is("of a spread with the contract", x.cancel(3), 1);
    }

    private static void endsOfTicks() {
        check.part("at each, first quotes are counted, then AUCTIONs that end in it are ended");
        for (int ticks = 1; ticks <= 3; ticks++) {
            Openbook x = new Openbook();
            x.quote(0, 0, 90, 110, 1);
            x.auction(0, 2, 0, 0);
            x.pass(ticks);
            check.is("counted", x.quoted(0), Math.max(0, ticks - 2));
            check.is("end", x.endOf(0), ticks < 2 ? 2 : NONE);
        }
        Openbook x = new Openbook();
        x.setBand(0, 3);
        x.auction(1, 1, 0, 0);
        x.quote(0, 0, 90, 110, 1);
        x.stop(2, 1, 101, 0, 1);
        x.limit(4, 1, 101, 1, 0, 0);
        x.limit(6, 1, 101, -2, 0, 0);
        x.pass(20);
        check.is("the most ticks at once", x.quoted(0), 20);
        check.is("the stop is triggered as its book is opened", x.position(2, 1), 1);
        check.part("by rising books");
        Openbook y = new Openbook();
        for (int book = 5; book >= 0; book--) {
            y.auction(book, 3, 0, 0);
            int price = book < 4 ? 100 : 0;
            y.limit(0, book, price, 1, 0, 0);
            y.limit(2, book, price, -1, 0, 0);
        }
        y.pass(3);
        check.is("trades", y.trades(), 6);
        for (int book = 0; book < 6; book++) {
            check.is("book", y.trade(book, 0), book);
        }
    }

    // ---- quotes

    private static void protectionsAtTheLot() {
        check.part("by as much as its protection or more");
        for (int lots = 1; lots <= 5; lots++) {
            for (int side = 1; side >= -1; side -= 2) {
                Openbook x = new Openbook();
                x.setProtection(0, 3);
                x.quote(0, 0, 90, 110, 9);
                x.quote(0, 4, -90, 90, 9);
                x.limit(2, 0, side > 0 ? 110 : 90, lots * side, 0, 0);
                for (int order = 0; order < 4; order++) {
                    check.is("order " + order + " by " + lots, x.stateOf(order), lots < 3 ? BOOKED : GONE);
                }
                check.is("traded whole", x.position(2, 0), lots * side);
            }
        }
        check.part("the rests of both sides, in all books");
        Openbook x = new Openbook();
        x.setProtection(0, 4);
        x.quote(0, 0, 90, 110, 9);
        x.quote(0, 1, 90, 110, 9);
        x.limit(2, 0, 110, 1, 0, 0);
        x.limit(2, 0, 90, -1, 0, 0);
        x.limit(2, 1, 110, 1, 0, 0);
        check.is("3 of 4", x.stateOf(0), BOOKED);
        x.limit(2, 1, 90, -1, 0, 0);
        check.is("4 of 4", x.stateOf(0), GONE);
        check.part("0 is none, 999 is much");
        for (int lots : new int[] {0, 999}) {
            Openbook y = new Openbook();
            y.setProtection(0, lots);
            y.quote(0, 0, 90, 110, 50);
            y.limit(2, 0, 110, 50, 0, 0);
            y.limit(2, 0, 90, -49, 0, 0);
            check.is("booked", y.rest(0), 1);
        }
    }

    private static void protectionsOfTheNewOne() {
        check.part("the one to sell, if by then the quotes of the account were not taken away");
        for (int lots = 1; lots <= 4; lots++) {
            Openbook x = new Openbook();
            x.setProtection(0, 3);
            x.quote(0, 1, 90, 110, 1);
            x.limit(2, 0, 100, -lots, 0, 0);
            int number = x.quote(0, 0, 100, 110, 9);
            check.is("traded", x.position(0, 0), lots);
            check.is("to buy", x.stateOf(number), lots < 3 ? BOOKED : GONE);
            check.is("to sell", x.stateOf(number + 1), lots < 3 ? BOOKED : GONE);
            check.is("in another book", x.stateOf(0), lots < 3 ? BOOKED : GONE);
            check.is("the next number", x.market(4, 2, 1), number + 2);
        }
        for (int lots = 1; lots <= 4; lots++) {
            Openbook x = new Openbook();
            x.setProtection(0, 3);
            x.limit(2, 0, 100, lots, 0, 0);
            int number = x.quote(0, 0, 90, 100, 9);
            check.is("traded", x.position(0, 0), -lots);
            check.is("to buy", x.stateOf(number), lots < 3 ? BOOKED : GONE);
            check.is("to sell", x.stateOf(number + 1), lots < 3 ? BOOKED : GONE);
        }
        check.part("trades with oneself count");
        Openbook y = new Openbook();
        y.setProtection(0, 2);
        y.limit(0, 0, 100, -2, 0, 0);
        y.quote(0, 0, 100, 110, 5);
        check.is("to buy", y.stateOf(1), GONE);
        check.is("to sell", y.stateOf(2), GONE);
        y.limit(0, 0, 90, 2, 0, 0);
        y.quote(0, 0, 80, 90, 1);
        check.is("one of two", y.position(0, 0), 0);
        y.quote(0, 0, 80, 95, 5);
        y.auction(0, 1, 0, 0);
        y.limit(0, 0, 95, 2, 0, 0);
        y.pass(1);
        check.is("in an AUCTION, too", y.stateOf(6), GONE);
        check.is("in an AUCTION, too", y.stateOf(7), GONE);
        check.part("the one to buy that has traded whole is not taken away");
        Openbook x = new Openbook();
        x.setProtection(0, 3);
        x.limit(2, 0, 100, -2, 0, 0);
        x.quote(0, 0, 100, 110, 2);
        check.is("to buy", x.stateOf(1), GONE);
        check.is("to sell", x.stateOf(2), BOOKED);
        x.limit(2, 0, 110, 1, 0, 0);
        check.is("at 3 it is gone", x.stateOf(2), GONE);
    }

    private static void protectionsSinceTheLatest() {
        check.part("since its latest quote was told");
        Openbook x = new Openbook();
        x.setProtection(0, 3);
        x.quote(0, 0, 90, 110, 9);
        x.limit(2, 0, 110, 2, 0, 0);
        x.quote(0, 1, 90, 110, 9);
        x.limit(2, 0, 110, 2, 0, 0);
        check.is("2 of 3 since then", x.stateOf(0), BOOKED);
        x.quote(1, 2, 90, 110, 9);
        x.limit(2, 0, 110, 1, 0, 0);
        check.is("that of another account does not count", x.stateOf(0), GONE);
        check.is("in the other book", x.stateOf(2), GONE);
        Openbook y = new Openbook();
        y.setProtection(0, 3);
        y.quote(0, 0, 90, 110, 9);
        y.limit(2, 0, 110, 2, 0, 0);
        y.setLimit(0, 1, 1);
        check.state("one that throws was not told", y, () -> y.quote(0, 1, 90, 110, 9));
        y.limit(2, 0, 110, 1, 0, 0);
        check.is("3 of 3", y.stateOf(0), GONE);
    }

    private static void goneByProtection() {
        check.part("all its quotes are gone, not its other orders, nor those of others");
        Openbook x = new Openbook();
        x.setProtection(0, 1);
        x.quote(0, 0, 90, 110, 9);
        x.limit(0, 0, 80, 1, 0, 0);
        x.limit(0, 1, 80, 1, 0, 0);
        x.iceberg(0, 0, 120, -4, 2);
        x.peg(0, 0, 85, 1, 0);
        x.stop(0, 0, 900, 0, 1);
        x.quote(1, 0, 80, 120, 1);
        x.limit(2, 0, 110, 1, 0, 0);
        check.is("to buy", x.stateOf(0), GONE);
        check.is("to sell", x.stateOf(1), GONE);
        for (int order = 2; order <= 8; order++) {
            check.is("order " + order, x.stateOf(order), order == 6 ? WAITING : BOOKED);
        }
        check.is("the peg follows what is left", x.priceOf(5), 80);
    }

    private static void replacedQuotes() {
        check.part("the orders of the quote before of this account in this book are gone");
        Openbook x = new Openbook();
        x.quote(0, 0, 90, 110, 9);
        x.limit(0, 0, 80, 1, 0, 0);
        x.limit(0, 0, 120, -1, 0, 0);
        x.iceberg(0, 0, 120, -4, 2);
        x.peg(0, 0, 70, 1, 0);
        x.stop(0, 0, 900, 0, 1);
        x.quote(1, 0, 80, 120, 1);
        x.quote(0, 4, 80, 120, 1);
        check.is("number", x.quote(0, 0, 91, 109, 9), 11);
        check.is("to buy", x.stateOf(0), GONE);
        check.is("to sell", x.stateOf(1), GONE);
        for (int order = 2; order <= 10; order++) {
            check.is("order " + order, x.stateOf(order), order == 6 ? WAITING : BOOKED);
        }
        check.part("one that is left of it is gone, too");
        Openbook y = new Openbook();
        y.quote(0, 0, 90, 110, 9);
        y.cancel(0);
        y.quote(0, 0, 91, 109, 9);
        check.is("to sell", y.stateOf(1), GONE);
        y.cancel(3);
        y.quote(0, 0, 92, 108, 9);
        check.is("to buy", y.stateOf(2), GONE);
        check.is("the new one", y.stateOf(4) + y.stateOf(5), 2 * BOOKED);
    }

    private static void countedTicks() {
        check.part("for each book in which both orders of a quote are live, and that is OPEN");
        Openbook x = new Openbook();
        for (int book = 0; book < 6; book++) {
            // Of spreads so wide that they imply nothing.
            x.quote(7, book, book < 4 ? 50 : -200, book < 4 ? 60 : 200, 1);
        }
        x.pass(1);
        check.is("six books", x.quoted(7), 6);
        x.auction(2, 1, 0, 0);
        x.pass(1);
        check.is("five books", x.quoted(7), 6 + 5);
        x.cancel(1);
        x.limit(7, 0, 60, -1, 0, 0);
        x.pass(1);
        check.is("another order to sell is none of a quote", x.quoted(7), 11 + 5);
        x.cancel(2);
        x.limit(7, 1, 50, 1, 0, 0);
        x.pass(1);
        check.is("another order to buy is none of a quote", x.quoted(7), 16 + 4);
        x.limit(7, 2, 50, 1, 0, 0);
        x.limit(7, 2, 60, -1, 0, 0);
        x.pass(1);
        check.is("a book counts once", x.quoted(7), 20 + 4);
        x.endDay();
        x.pass(20);
        check.is("for one day", x.quoted(7), 24);
        Openbook y = new Openbook();
        y.limit(0, 0, 50, 1, 0, 0);
        y.limit(0, 0, 60, -1, 0, 0);
        y.pass(3);
        check.is("other orders are no quotes", y.quoted(0), 0);
        y.quote(1, 0, 40, 70, 1);
        y.pass(3);
        check.is("of the account alone", y.quoted(0), 0);
        check.is("of the account alone", y.quoted(1), 3);
    }
}
