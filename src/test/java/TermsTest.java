import java.util.Random;

/** The terms of the document, sentence by sentence: each at its edge. The parts are named by the sentences. */
public final class TermsTest {
    private static final int NONE = Openbook.NONE;
    private static final int GONE = Openbook.GONE, BOOKED = Openbook.BOOKED, WAITING = Openbook.WAITING;
    private static final Check check = new Check("TermsTest");

    private TermsTest() {
    }

    public static void main(String[] args) {
        whoAndWhat();
        prices();
        numbers();
        refused();
        refusedQuotes();
        couldComeTo();
        limitAllows();
        bandEnds();
        bandComesFirst();
        ownAtThisPriceAlone();
        sharesWithoutTop();
        sharesOfWhatIsShownYet();
        sizesOfWhatIsShownYet();
        sharedByTheWords();
        icebergsShow();
        leftOver();
        pegsAtTheirLimit();
        pegsInRange();
        pegsAreMetAndShownAtTheirPrice();
        pegsAreReachedAtTheirPrice();
        stopsAtTheirTrigger();
        stopsThatBustsTrigger();
        stopsAheadOfPegs();
        stopsAheadOfCombinations();
        combinedAtTheirTurns();
        combinedByWhatIsShownYet();
        check.end();
    }

    private static void deal(Openbook x, int book, int buyer, int seller, int price, int lots) {
        x.limit(seller, book, price, -lots, 0, 0);
        x.limit(buyer, book, price, lots, 0, NONE);
    }

    private static void lots(Openbook x, int from, int... due) {
        check.is("trades", x.trades(), from + due.length);
        for (int k = 0; k < due.length && from + k < x.trades(); k++) {
            check.is("lots of trade " + (from + k), x.trade(from + k, 4), due[k]);
        }
    }

    /** Who is on the side of the resting orders in the trades from one on. */
    private static void met(Openbook x, int from, boolean sellersRest, int... due) {
        check.is("trades", x.trades(), from + due.length);
        for (int k = 0; k < due.length && from + k < x.trades(); k++) {
            check.is("who rested in trade " + (from + k), x.trade(from + k, sellersRest ? 2 : 1), due[k]);
        }
    }

    // ---- who and what

    private static void whoAndWhat() {
        check.part("the accounts 0 to 7, of which a belongs to the member a / 2");
        for (int one = 0; one < 8; one++) {
            for (int other = 0; other < 8; other++) {
                Openbook x = new Openbook();
                x.setRule(0, 0, 0, 1);
                x.limit(one, 0, 100, -1, 0, 0);
                x.limit(other, 0, 100, 1, 0, 0);
                check.is("trades of " + one + " and " + other, x.trades(), one / 2 == other / 2 ? 0 : 1);
            }
        }
        check.part("time goes in ticks, 0 at first, and days, 0 at first");
        Openbook x = new Openbook();
        check.is("ends in the tick", x.auction(0, 1, 0, 0), 1);
        check.is("now", x.pass(1), 1);
        x.limit(0, 0, 90, 1, 0, 0);
        check.is("days are no ticks", x.endDay(), 1);
        check.is("ticks go on over the days", x.pass(1), 2);
    }

    private static void prices() {
        check.part("prices are 1 to 9999, of spreads -9999 to 9999");
        int[][] rows = {{0, 1, 0, NONE}, {1, 9999, 1, NONE}, {2, 1, 2, NONE}, {3, 9999, 3, NONE},
                {4, -9999, 0, 1}, {4, 9999, 0, 1}, {5, -9999, 1, 2}, {5, 9999, 1, 2}, {4, 0, 0, 1}};
        for (int[] row : rows) {
            for (int side = 1; side >= -1; side -= 2) {
                Openbook x = new Openbook();
                x.limit(0, row[0], row[1], 50 * side, 0, 0);
                x.limit(2, row[0], row[1], -50 * side, 0, 0);
                lots(x, 0, 50);
                check.is("last", x.last(row[0], false), row[1]);
                check.is("cash", x.cash(0), -50L * side * row[1]);
                check.is("cash of the other", x.cash(2), 50L * side * row[1]);
                for (int contract = 0; contract < 4; contract++) {
                    int due = contract == row[2] ? 50 * side : contract == row[3] ? -50 * side : 0;
                    check.is("position", x.position(0, contract), due);
                    check.is("position of the other", x.position(2, contract), -due);
                }
            }
        }
    }

    // ---- orders

    private static void numbers() {
        check.part("orders are numbered from 0 as they are told");
        Openbook x = new Openbook();
        check.is("limit", x.limit(0, 0, 90, 1, 0, 0), 0);
        check.is("market, that is gone", x.market(0, 1, 1), 1);
        check.is("one that is gone for its least", x.limit(0, 1, 90, 1, 1, 0), 2);
        check.is("one for at once", x.limit(0, 1, 90, 1, 0, NONE), 3);
        check.is("quote", x.quote(0, 2, 90, 91, 1), 4);
        check.is("behind both of a quote", x.iceberg(0, 0, 90, 2, 1), 6);
        check.range("one that throws", x, () -> x.limit(0, 0, 0, 1, 0, 0));
        x.setLimit(0, 3, 0);
        check.state("one that is refused", x, () -> x.quote(0, 3, 90, 91, 1));
        check.place("no such account", x, () -> x.peg(8, 0, 90, 1, 0));
        check.is("uses no number", x.peg(0, 0, 90, 1, 0), 7);
        x.cancel(7);
        check.is("numbers do not come again", x.stop(0, 0, 900, 0, 1), 8);
    }

    private static void refused() {
        check.part("an order is refused, if the account could come to more than its limit");
        for (int side = 1; side >= -1; side -= 2) {
            int with = side;
            Openbook x = new Openbook();
            x.setLimit(0, 0, 10);
            check.state("11 of 10", x, () -> x.market(0, 0, 11 * with));
            check.is("10 of 10", x.limit(0, 0, 100, 10 * side, 0, 0), 0);
            check.state("a lot more", x, () -> x.market(0, 0, with));
            check.state("a lot more", x, () -> x.limit(0, 0, 100, with, 0, NONE));
            check.state("a lot more", x, () -> x.iceberg(0, 0, 100, with, 1));
            check.state("a lot more", x, () -> x.peg(0, 0, 100, with, 0));
            check.state("a lot more", x, () -> x.stop(0, 0, 100, 0, with));
            check.state("a lot more of a spread", x, () -> x.market(0, 4, with));
            check.is("of the other one", x.market(0, 5, with), 1);
            check.is("on the other side", x.limit(0, 0, side > 0 ? 110 : 90, -10 * side, 0, 0), 2);
            check.state("a lot more on the other side", x, () -> x.market(0, 0, -with));
            x.cancel(0);
            check.is("none of it any more", x.market(0, 0, 10 * side), 3);
        }
        check.part("a limit of 0, and one of 999");
        Openbook x = new Openbook();
        for (int order = 0; order < 19; order++) {
            x.limit(0, 0, 100, 50, 0, 0);
        }
        check.state("1000", x, () -> x.limit(0, 0, 100, 50, 0, 0));
        check.is("999", x.limit(0, 0, 100, 49, 0, 0), 19);
        check.state("1000", x, () -> x.limit(0, 0, 100, 1, 0, 0));
        x.setLimit(2, 0, 0);
        check.state("none to buy", x, () -> x.market(2, 0, 1));
        check.state("none to sell", x, () -> x.market(2, 0, -1));
        check.state("no quote", x, () -> x.quote(2, 0, 1, 2, 1));
        check.is("of another contract", x.market(2, 1, 1), 20);
    }

    private static void refusedQuotes() {
        check.part("a quote is refused, if one of both orders is, with the quote before");
        for (int book : new int[] {0, 4, 5}) {
            for (int side = 1; side >= -1; side -= 2) {
                int contract = book == 5 ? 1 : 0;
                Openbook x = new Openbook();
                x.setLimit(0, contract, 10);
                deal(x, contract, side > 0 ? 0 : 2, side > 0 ? 2 : 0, 100, 6);
                int before = x.quote(0, book, 90, 110, 2);
                check.state("only one is refused", x, () -> x.quote(0, book, 90, 110, 3));
                check.is("the quote before stays", x.stateOf(before), BOOKED);
                check.is("the quote before stays", x.stateOf(before + 1), BOOKED);
                check.is("up to the limit", x.quote(0, book, 90, 110, 2), before + 2);
            }
        }
    }

    private static void couldComeTo() {
        check.part("those of spreads, stops and pegs, too");
        for (int side = 1; side >= -1; side -= 2) {
            int with = side;
            Openbook x = new Openbook();
            x.setLimit(0, 1, 10);
            x.limit(0, 4, -50 * side, -2 * side, 0, 0);
            x.limit(0, 5, -50 * side, 2 * side, 0, 0);
            x.stop(0, 1, side > 0 ? 900 : 1, 0, 2 * side);
            x.peg(0, 1, 100, 2 * side, 0);
            check.is("waits", x.stateOf(3), WAITING);
            check.state("2 yet", x, () -> x.market(0, 1, 3 * with));
            check.state("of the spread above it", x, () -> x.market(0, 5, 3 * with));
            check.state("of the spread below it", x, () -> x.market(0, 4, -3 * with));
            check.is("on the other side all", x.limit(0, 1, 100 + 50 * side, -10 * side, 0, 0), 4);
            check.state("but no more", x, () -> x.market(0, 1, -with));
            check.state("nor of the spread above it", x, () -> x.market(0, 5, -with));
            check.state("nor of the spread below it", x, () -> x.market(0, 4, with));
            check.is("2 yet", x.market(0, 1, 2 * side), 5);
            check.is("2 yet", x.market(0, 4, -2 * side), 6);
            check.is("2 yet", x.market(0, 5, 2 * side), 7);
        }
        check.part("an account alone, not its member");
        Openbook x = new Openbook();
        x.setLimit(0, 0, 1);
        x.setLimit(1, 0, 1);
        check.is("one", x.limit(0, 0, 90, 1, 0, 0), 0);
        check.is("and one", x.limit(1, 0, 90, 1, 0, 0), 1);
    }

    private static void limitAllows() {
        check.part("if its limit does not allow it, matching ends");
        for (int by = -1; by <= 1; by++) {
            Openbook x = new Openbook();
            x.limit(0, 0, 100, -1, 0, 0);
            x.limit(2, 0, 100 + by, 1, 0, 0);
            check.is("to buy by " + by, x.trades(), by >= 0 ? 1 : 0);
            Openbook y = new Openbook();
            y.limit(0, 0, 100, 1, 0, 0);
            y.limit(2, 0, 100 + by, -1, 0, 0);
            check.is("to sell by " + by, y.trades(), by <= 0 ? 1 : 0);
            Openbook z = new Openbook();
            z.limit(0, 4, 0, -1, 0, 0);
            z.limit(2, 4, by, 1, 0, 0);
            check.is("of a spread around 0 by " + by, z.trades(), by >= 0 ? 1 : 0);
        }
    }

    private static void bandEnds() {
        check.part("farther from the reference than the band: an AUCTION of 5 ticks");
        int[] references = {100, 100, 100, 100, 0, 0};
        for (int book = 0; book < 6; book++) {
            for (int by = 6; by <= 8; by++) {
                for (int side = 1; side >= -1; side -= 2) {
                    Openbook x = new Openbook();
                    x.pass(3);
                    x.setBand(book, 7);
                    int price = references[book] + by * side;
                    x.limit(0, book, price, -2 * side, 0, 0);
                    x.limit(2, book, price + side, 3 * side, 0, 0);
                    check.is("trades " + by + " from it", x.trades(), by <= 7 ? 1 : 0);
                    check.is("end", x.endOf(book), by <= 7 ? NONE : 8);
                    check.is("what is left stays at its limit", x.priceOf(1), price + side);
                    check.is("rest", x.rest(1), by <= 7 ? 1 : 3);
                }
            }
        }
        check.part("the reference counts, not the last price");
        Openbook x = new Openbook();
        deal(x, 0, 0, 2, 107, 1);
        x.setBand(0, 7);
        deal(x, 0, 0, 2, 107, 1);
        check.is("within", x.trades(), 2);
        deal(x, 0, 0, 2, 108, 1);
        check.is("beyond", x.trades(), 2);
        check.is("AUCTION", x.endOf(0), 5);
        check.part("a band of 0 is none, one of 9999 holds all");
        for (int width : new int[] {0, 9999}) {
            Openbook y = new Openbook();
            y.setBand(0, width);
            y.setBand(4, width);
            deal(y, 0, 0, 2, 9999, 1);
            deal(y, 0, 0, 2, 1, 1);
            deal(y, 4, 0, 2, -9999, 1);
            deal(y, 4, 0, 2, 9999, 1);
            check.is("trades", y.trades(), 4);
        }
    }

    private static void bandComesFirst() {
        check.part("the limit is looked at ahead of the band, the band ahead of the self rule");
        Openbook x = new Openbook();
        x.setBand(0, 3);
        x.limit(0, 0, 110, -1, 0, 0);
        x.limit(2, 0, 109, 1, 0, 0);
        check.is("the limit does not allow it", x.endOf(0), NONE);
        x.limit(2, 0, 109, 1, 0, NONE);
        check.is("the limit does not allow it", x.endOf(0), NONE);
        for (int self = 1; self <= 2; self++) {
            Openbook y = new Openbook();
            y.setBand(0, 3);
            y.setRule(0, 0, 0, self);
            y.limit(0, 0, 104, -2, 0, 0);
            y.limit(1, 0, 104, 3, 0, 0);
            check.is("an AUCTION begins", y.endOf(0), 5);
            check.is("the own one stays", y.rest(0), 2);
            check.is("the new one stays", y.rest(1), 3);
        }
        check.part("nothing there: no AUCTION begins");
        Openbook z = new Openbook();
        z.setBand(0, 1);
        z.limit(0, 0, 500, 1, 0, 0);
        z.market(0, 1, 1);
        check.is("OPEN", z.endOf(0), NONE);
    }

    private static void ownAtThisPriceAlone() {
        check.part("if some order at this price is of the same member");
        for (int self = 0; self <= 2; self++) {
            for (int rule = 0; rule <= 2; rule++) {
                Openbook x = new Openbook();
                x.setRule(0, rule, 3, self);
                x.limit(2, 0, 100, -2, 0, 0);
                x.limit(0, 0, 101, -2, 0, 0);
                x.limit(4, 0, 101, -2, 0, 0);
                x.limit(1, 0, 102, -2, 0, 0);
                x.limit(6, 0, 103, -2, 0, 0);
                x.limit(1, 0, 103, 7, 0, 0);
                if (self == 0) {
                    lots(x, 0, 2, 2, 2, 1);
                } else if (self == 1) {
                    lots(x, 0, 2);
                    check.is("the rest of the new order is gone", x.stateOf(5), GONE);
                    check.is("the own one stays", x.rest(1), 2);
                    check.is("the other one there stays", x.rest(2), 2);
                } else {
                    met(x, 0, true, 2, 4, 6);
                    check.is("all of the member are gone", x.stateOf(1), GONE);
                    check.is("all of the member are gone", x.stateOf(3), GONE);
                    check.is("the rest", x.rest(5), 1);
                }
            }
        }
        Openbook y = new Openbook();
        y.setRule(0, 0, 0, 2);
        y.limit(0, 0, 100, -2, 0, 0);
        y.limit(1, 0, 100, 2, 0, 0);
        check.is("with none other it stays", y.rest(1), 2);
        check.is("the own one is gone", y.stateOf(0), GONE);
    }

    private static void sharesWithoutTop() {
        check.part("SHARES: up to the top; if more is left than they show together yet, all");
        int[][] rows = {
            // top, what the new one has, what the three get of 6, 3 and 1
            {0, 1, 1, 0, 0}, {0, 2, 2, 0, 0}, {0, 3, 2, 1, 0}, {0, 5, 4, 1, 0}, {0, 9, 6, 3, 0}, {0, 10, 6, 3, 1},
            {0, 11, 6, 3, 1}, {1, 1, 1, 0, 0}, {1, 2, 2, 0, 0}, {5, 6, 6, 0, 0}, {6, 6, 6, 0, 0}, {7, 6, 6, 0, 0},
            {6, 7, 6, 1, 0}, {6, 10, 6, 3, 1}, {6, 11, 6, 3, 1}, {50, 9, 6, 3, 0}, {5, 5, 5, 0, 0}, {5, 4, 4, 0, 0},
            {2, 8, 6, 2, 0}};
        for (int[] row : rows) {
            for (int side = 1; side >= -1; side -= 2) {
                Openbook x = new Openbook();
                x.setRule(0, Openbook.SHARES, row[0], 0);
                x.limit(0, 0, 100, -6 * side, 0, 0);
                x.limit(2, 0, 100, -3 * side, 0, 0);
                x.limit(4, 0, 100, -side, 0, 0);
                x.limit(6, 0, 100, row[1] * side, 0, NONE);
                for (int who = 0; who < 3; who++) {
                    check.is("top " + row[0] + " of " + row[1] + " to " + who, x.position(2 * who, 0), -side * row[2 + who]);
                }
            }
        }
    }

    private static void sharesOfWhatIsShownYet() {
        check.part("SHARES: of what they show yet, not of what they had");
        for (int side = 1; side >= -1; side -= 2) {
            Openbook x = new Openbook();
            x.limit(0, 0, 100, -20 * side, 0, 0);
            x.limit(6, 0, 100, 18 * side, 0, NONE);
            x.limit(2, 0, 100, -6 * side, 0, 0);
            x.setRule(0, Openbook.SHARES, 0, 0);
            x.limit(6, 0, 100, 4 * side, 0, NONE);
            // 2 and 6 are shown: 4 of 8.
            met(x, 1, side > 0, 0, 2);
            lots(x, 1, 1, 3);
            Openbook y = new Openbook();
            y.limit(0, 0, 100, -20 * side, 0, 0);
            y.limit(6, 0, 100, 19 * side, 0, NONE);
            y.limit(2, 0, 100, -2 * side, 0, 0);
            y.limit(4, 0, 100, -2 * side, 0, 0);
            y.setRule(0, Openbook.SHARES, 9, 0);
            y.limit(6, 0, 100, 4 * side, 0, NONE);
            // 1 for the first; 3 of 4 are 1 and 1, and one more for the second.
            lots(y, 1, 1, 2, 1);
            Openbook z = new Openbook();
            z.limit(0, 0, 100, -9 * side, 0, 0);
            z.limit(2, 0, 100, -9 * side, 0, 0);
            z.limit(6, 0, 100, 8 * side, 0, NONE);
            z.setRule(0, Openbook.SHARES, 0, 0);
            z.limit(6, 0, 100, 10 * side, 0, NONE);
            // As much as they show together: 1 and 9.
            lots(z, 1, 1, 9);
        }
    }

    private static void sizesOfWhatIsShownYet() {
        check.part("SIZE: those that show most first, of several by turns");
        for (int side = 1; side >= -1; side -= 2) {
            boolean sellers = side > 0;
            Openbook x = sized(side, 3, 5);
            x.limit(6, 0, 100, 2 * side, 0, NONE);
            met(x, 0, sellers, 2);
            // Both show 3 now.
            x.limit(6, 0, 100, side, 0, NONE);
            met(x, 1, sellers, 0);
            Openbook y = sized(side, 5, 3);
            y.limit(6, 0, 100, 2 * side, 0, NONE);
            y.limit(6, 0, 100, side, 0, NONE);
            met(y, 0, sellers, 0, 0);
            y.limit(6, 0, 100, side, 0, NONE);
            met(y, 2, sellers, 2);
            Openbook z = sized(side, 5, 3);
            z.setRule(0, Openbook.TIME, 0, 0);
            z.limit(6, 0, 100, 4 * side, 0, NONE);
            z.setRule(0, Openbook.SIZE, 0, 0);
            z.limit(6, 0, 100, 4 * side, 0, NONE);
            met(z, 1, sellers, 2, 0);
            lots(z, 1, 3, 1);
            // The one that was told later has the first place among those that are live.
            Openbook w = new Openbook();
            w.limit(4, 0, 100 + side, -9 * side, 0, 0);
            w.limit(2, 0, 100, -5 * side, 0, 0);
            w.limit(6, 0, 100, 4 * side, 0, NONE);
            w.cancel(0);
            w.limit(0, 0, 100, -2 * side, 0, 0);
            w.setRule(0, Openbook.SIZE, 0, 0);
            w.limit(6, 0, 100, 3 * side, 0, NONE);
            met(w, 1, sellers, 0, 2);
        }
    }

    private static Openbook sized(int side, int first, int second) {
        Openbook x = new Openbook();
        x.setRule(0, Openbook.SIZE, 0, 0);
        x.limit(0, 0, 100, -first * side, 0, 0);
        x.limit(2, 0, 100, -second * side, 0, 0);
        return x;
    }

    private static void sharedByTheWords() {
        check.part("the rest is shared out among what the orders at this price show, by the rule of the book");
        Random random = new Random(3);
        for (int round = 0; round < 3000; round++) {
            int rule = random.nextInt(3);
            int top = random.nextInt(3) == 0 ? random.nextInt(51) : random.nextInt(8);
            int side = random.nextBoolean() ? 1 : -1;
            int[] shows = new int[1 + random.nextInt(7)];
            int all = 0;
            Openbook x = new Openbook();
            x.setRule(0, rule, top, 0);
            for (int who = 0; who < shows.length; who++) {
                shows[who] = 1 + random.nextInt(random.nextBoolean() ? 4 : 12);
                all += shows[who];
                int hidden = random.nextInt(3) == 0 ? random.nextInt(9) : 0;
                x.iceberg(who, 0, 100, -side * (shows[who] + hidden), shows[who]);
            }
            int rest = 1 + random.nextInt(Math.min(50, all));
            x.limit(7, 0, 100, side * rest, 0, NONE);
            int[] gets = shared(rule, top, rest, shows);
            int trade = 0;
            for (int who : inOrder(rule, shows)) {
                if (gets[who] > 0) {
                    check.is("who is met in round " + round, x.trade(trade, side > 0 ? 2 : 1), who);
                    check.is("how many it gets", x.trade(trade, 4), gets[who]);
                    trade++;
                }
            }
            check.is("trades", x.trades(), trade);
        }
    }

    /** By turns; by SIZE those that show most first, of several by turns. */
    private static int[] inOrder(int rule, int[] shows) {
        int[] order = new int[shows.length];
        int count = 0;
        for (int size = 99; size > 0; size--) {
            for (int who = 0; who < shows.length; who++) {
                if (rule == Openbook.SIZE ? shows[who] == size : size == 99) {
                    order[count++] = who;
                }
            }
        }
        return order;
    }

    private static int[] shared(int rule, int top, int rest, int[] shows) {
        int[] gets = new int[shows.length];
        int left = rest;
        if (rule != Openbook.SHARES) {
            for (int who : inOrder(rule, shows)) {
                gets[who] = Math.min(left, shows[who]);
                left -= gets[who];
            }
            return gets;
        }
        gets[0] = Math.min(Math.min(top, left), shows[0]);
        left -= gets[0];
        int[] yet = new int[shows.length];
        int together = 0;
        for (int who = 0; who < shows.length; who++) {
            yet[who] = shows[who] - gets[who];
            together += yet[who];
        }
        int then = left;
        for (int who = 0; who < shows.length && together > 0; who++) {
            int part = then > together ? yet[who] : then * yet[who] / together;
            gets[who] += part;
            left -= part;
        }
        for (int who = 0; left > 0; who = (who + 1) % shows.length) {
            if (gets[who] < shows[who]) {
                gets[who]++;
                left--;
            }
        }
        return gets;
    }

    private static void icebergsShow() {
        check.part("icebergs, which show at most so many at once");
        for (int side = 1; side >= -1; side -= 2) {
            boolean buys = side < 0;
            Openbook x = new Openbook();
            x.iceberg(0, 0, 100, -7 * side, 3);
            x.limit(2, 0, 100, -9 * side, 0, 0);
            int[] shown = {2, 1, 3, 3, 3, 3, 3, 3, 3, 3, 3, 3};
            for (int lot = 0; lot < shown.length; lot++) {
                x.limit(6, 0, 100, side, 0, NONE);
                int other = x.stateOf(1) == GONE ? 0 : x.rest(1);
                check.is("shown behind lot " + lot, x.shown(0, buys, 100) - other, shown[lot]);
            }
            // Its turn came behind the other one's 9.
            check.is("the other one is gone", x.stateOf(1), GONE);
            x.limit(6, 0, 100, 3 * side, 0, NONE);
            check.is("the last one", x.shown(0, buys, 100), 1);
            x.limit(6, 0, 100, side, 0, NONE);
            check.is("gone", x.stateOf(0), GONE);
            Openbook y = new Openbook();
            y.iceberg(0, 0, 100, -7 * side, 7);
            check.is("shows all", y.shown(0, buys, 100), 7);
            y.iceberg(0, 1, 100, -7 * side, 1);
            check.is("shows one", y.shown(1, buys, 100), 1);
            y.limit(2, 1, 100, 7 * side, 0, NONE);
            check.is("one by one", y.trades(), 7);
        }
        check.part("it shows anew by its trade, not by time");
        Openbook z = new Openbook();
        z.iceberg(0, 0, 100, -9, 3);
        z.limit(2, 0, 100, 2, 0, 0);
        z.pass(20);
        check.is("shown", z.shown(0, false, 100), 1);
        z.auction(1, 1, 0, 0);
        z.pass(1);
        check.is("shown when another book is opened", z.shown(0, false, 100), 1);
    }

    private static void leftOver() {
        check.part("what is left of an order that takes any price, or whose life is NONE, is gone");
        for (int traded = 0; traded <= 2; traded++) {
            Openbook x = new Openbook();
            if (traded > 0) {
                x.limit(0, 0, 100, -traded, 0, 0);
            }
            int market = x.market(2, 0, 2);
            check.is("at any price", x.stateOf(market), GONE);
            check.is("has traded", x.position(2, 0), traded);
            if (traded > 0) {
                x.limit(0, 0, 100, -traded, 0, 0);
            }
            int atOnce = x.limit(4, 0, 100, 2, 0, NONE);
            check.is("for at once", x.stateOf(atOnce), GONE);
            check.is("has traded", x.position(4, 0), traded);
            if (traded > 0) {
                x.limit(0, 0, 100, -traded, 0, 0);
            }
            int limit = x.limit(6, 0, 100, 2, 0, 0);
            check.is("any other stays", x.stateOf(limit), traded == 2 ? GONE : BOOKED);
        }
    }

    private static void pegsAtTheirLimit() {
        check.part("a peg: the best price less its offset, but no further than its limit");
        for (int offset : new int[] {0, 1, 99}) {
            for (int by = -1; by <= 1; by++) {
                Openbook x = new Openbook();
                x.limit(0, 0, 200, 1, 0, 0);
                x.peg(2, 0, 200 - offset + by, 1, offset);
                check.is("to buy", x.priceOf(1), 200 - offset + Math.min(0, by));
                Openbook y = new Openbook();
                y.limit(0, 0, 200, -1, 0, 0);
                y.peg(2, 0, 200 + offset + by, -1, offset);
                check.is("to sell", y.priceOf(1), 200 + offset + Math.max(0, by));
            }
        }
    }

    private static void pegsInRange() {
        check.part("beyond 1 to 9999, or -9999 to 9999, a peg waits");
        int[][] rows = {{0, 50, 1, 1, 49}, {0, 9950, 9999, -1, 49}, {4, -9950, -9999, 1, 49}, {4, 9950, 9999, -1, 49},
                {5, -9999, -9999, 1, 0}, {5, 9999, 9999, -1, 0}, {3, 1, 1, 1, 0}, {3, 9999, 9999, -1, 0}};
        for (int[] row : rows) {
            Openbook x = new Openbook();
            x.limit(0, row[0], row[1], row[3], 0, 0);
            int limit = row[3] > 0 ? 9999 : row[0] < 4 ? 1 : -9999;
            x.peg(2, row[0], limit, row[3], row[4]);
            x.peg(2, row[0], limit, row[3], row[4] + 1);
            check.is("at the end of the range", x.priceOf(1), row[2]);
            check.is("beyond it", x.priceOf(2), NONE);
            check.is("beyond it", x.stateOf(2), WAITING);
            check.is("its rest", x.rest(2), 1);
        }
    }

    private static void pegsAreMetAndShownAtTheirPrice() {
        check.part("a peg is shown at its price, not at its limit");
        for (int side = 1; side >= -1; side -= 2) {
            Openbook x = new Openbook();
            x.limit(0, 0, 100, side, 0, 0);
            x.peg(2, 0, 100 + 20 * side, 5 * side, 3);
            check.is("at its price", x.shown(0, side > 0, 100 - 3 * side), 5);
            check.is("not at its limit", x.shown(0, side > 0, 100 + 20 * side), 0);
            check.is("the best one is not its", x.best(0, side > 0), 100);
            x.limit(4, 0, 100 - 3 * side, -4 * side, 0, 0);
            lots(x, 0, 1, 3);
            check.is("met at its price", x.trade(1, 3), 100 - 3 * side);
            check.is("waits without the other one", x.stateOf(1), WAITING);
            check.is("its rest", x.rest(1), 2);
            check.is("is not shown", x.shown(0, side > 0, 100 - 3 * side), 0);
        }
    }

    private static void pegsAreReachedAtTheirPrice() {
        check.part("least: the orders within the limit and the band, pegs at their price");
        for (int side = 1; side >= -1; side -= 2) {
            for (int least = 1; least <= 5; least++) {
                Openbook x = reached(side);
                x.limit(6, 0, 100 + 4 * side, 5 * side, least, NONE);
                check.is("to the first one", x.position(6, 0), least <= 2 ? 2 * side : 0);
                Openbook y = reached(side);
                y.limit(6, 0, 100 + 7 * side, 5 * side, least, NONE);
                check.is("to the peg", y.position(6, 0), 5 * side);
                y.market(6, 0, side);
                check.is("all of it", y.trades(), 2);
            }
            Openbook z = reached(side);
            z.setBand(0, 6);
            int gone = z.limit(6, 0, 100 + 9 * side, 5 * side, 3, 0);
            check.is("the peg is beyond the band", z.stateOf(gone), GONE);
            check.is("no AUCTION begins", z.endOf(0), NONE);
            z.setBand(0, 7);
            z.limit(6, 0, 100 + 9 * side, 5 * side, 5, 0);
            check.is("the peg is within the band", z.position(6, 0), 5 * side);
            Openbook w = new Openbook();
            w.limit(0, 0, 100, -2 * side, 0, 0);
            w.peg(2, 0, 100 - 50 * side, -3 * side, 0);
            w.setBand(0, 1);
            w.limit(6, 0, 100, 5 * side, 5, 0);
            check.is("its limit may be beyond the band", w.position(6, 0), 5 * side);
        }
    }

    /** One with 2 at 4 from 100, and a peg with 3 at 7 from 100, whose limit is at 100. */
    private static Openbook reached(int side) {
        Openbook x = new Openbook();
        x.limit(0, 0, 100 + 4 * side, -2 * side, 0, 0);
        x.peg(2, 0, 100, -3 * side, 3);
        check.is("price of the peg", x.priceOf(1), 100 + 7 * side);
        return x;
    }

    private static void stopsAtTheirTrigger() {
        check.part("a stop waits until the last price is at its trigger or above (to buy), or below (to sell)");
        for (int side = 1; side >= -1; side -= 2) {
            for (int by = -1; by <= 1; by++) {
                Openbook x = new Openbook();
                x.stop(0, 0, 105, 90 + (side > 0 ? 0 : 30), side);
                deal(x, 0, 2, 4, 105 + by * side, 1);
                boolean isTriggered = by >= 0 || side < 0;
                // To sell it is triggered by the last price of 100 at first.
                check.is("by " + by, x.stateOf(0), isTriggered ? BOOKED : WAITING);
            }
            for (int by = -1; by <= 1; by++) {
                for (int book = 0; book < 4; book++) {
                    Openbook x = new Openbook();
                    x.stop(0, book, 100 - by * side, 100 - 50 * side, side);
                    check.is("at once by " + by, x.stateOf(0), by >= 0 ? BOOKED : WAITING);
                }
            }
        }
        check.part("its book alone");
        Openbook x = new Openbook();
        x.stop(0, 0, 105, 0, 1);
        deal(x, 1, 2, 4, 110, 1);
        check.is("of another book", x.stateOf(0), WAITING);
        x.auction(1, 9, 0, 0);
        deal(x, 0, 2, 4, 105, 1);
        check.is("another book is in an AUCTION", x.stateOf(0), GONE);
    }

    private static void stopsThatBustsTrigger() {
        check.part("WORK behind a bust: a last price that comes back triggers, too");
        Openbook x = new Openbook();
        deal(x, 0, 2, 4, 110, 1);
        deal(x, 0, 2, 4, 104, 1);
        x.limit(6, 0, 120, -5, 0, 0);
        x.stop(0, 0, 105, 0, 1);
        check.is("waits", x.stateOf(5), WAITING);
        check.is("the last price ahead of WORK", x.bust(1), 110);
        check.is("triggered", x.position(0, 0), 1);
        check.is("the last price behind it", x.last(0, false), 120);
    }

    private static void stopsAheadOfPegs() {
        check.part("WORK: (1) stops, ahead of (3) pegs");
        for (int side = 1; side >= -1; side -= 2) {
            Openbook x = new Openbook();
            x.limit(0, 0, 100 + side, -side, 0, 0);
            x.peg(2, 0, 100 - 20 * side, -3 * side, 0);
            x.limit(4, 0, 100 + 3 * side, -5 * side, 0, 0);
            x.stop(6, 0, 100 + side, 0, 4 * side);
            x.limit(7, 0, 100 + side, side, 0, NONE);
            met(x, 0, side > 0, 0, 2, 4);
            lots(x, 0, 1, 3, 1);
            check.is("the peg as it was ahead of WORK", x.trade(1, 3), 100 + side);
            check.is("then the next price", x.trade(2, 3), 100 + 3 * side);
        }
        check.part("WORK: each stop that is due, also one that the stop before brought");
        Openbook x = new Openbook();
        for (int price = 101; price <= 104; price++) {
            x.limit(0, 0, price, -1, 0, 0);
        }
        for (int price = 103; price >= 101; price--) {
            x.stop(2, 0, price, 0, 1);
        }
        x.limit(4, 0, 101, 1, 0, 0);
        check.is("all of them", x.trades(), 4);
        check.is("the last price", x.last(0, false), 104);
    }

    private static void stopsAheadOfCombinations() {
        check.part("WORK: (1) stops, ahead of (2) combinations");
        Openbook x = new Openbook();
        x.auction(1, 1, 0, 0);
        x.limit(2, 1, 98, 3, 0, 0);
        x.limit(0, 0, 100, -3, 0, 0);
        x.limit(4, 4, 2, 3, 0, 0);
        x.stop(6, 1, 100, 0, -2);
        x.pass(1);
        lots(x, 0, 2, 1, 1);
        check.is("the stop in 1", x.trade(0, 2), 6);
        check.is("then the combination with what is left", x.trade(1, 0), 0);
        check.part("WORK: a combination is made, and (1) comes again");
        Openbook y = new Openbook();
        y.limit(0, 0, 103, -1, 0, 0);
        y.limit(2, 0, 103, -5, 0, 0);
        y.limit(6, 1, 98, 6, 0, 0);
        y.stop(1, 0, 103, 0, 3);
        y.limit(4, 4, 5, 6, 0, 0);
        lots(y, 0, 1, 1, 3, 2, 2);
        check.is("the stop takes what the next combination would", y.trade(2, 1), 1);
        check.is("then that is made", y.trade(3, 1), 4);
    }

    private static void combinedAtTheirTurns() {
        check.part("combinations: each the one whose turn is first at the best price of its side");
        for (int side = 1; side >= -1; side -= 2) {
            Openbook x = new Openbook();
            // Much turns of an iceberg bring the turns far from the numbers.
            x.iceberg(0, 3, 100, -20, 1);
            x.limit(2, 3, 100, 20, 0, 0);
            int trades = x.trades();
            x.limit(4, 0, 100 + side, -side, 0, 0);
            x.limit(5, 0, 100, -side, 0, 0);
            x.limit(6, 0, 100, -side, 0, 0);
            x.limit(7, 0, 100, -side, 0, 0);
            x.limit(2, 1, 100, side, 0, 0);
            x.limit(3, 4, 0, side, 0, 0);
            check.is("trades", x.trades(), trades + 2);
            check.is("the first one at the best price", x.trade(trades, side > 0 ? 2 : 1), 5);
        }
    }

    private static void combinedByWhatIsShownYet() {
        check.part("combinations: n the least that one of them shows");
        for (int side = 1; side >= -1; side -= 2) {
            for (int spread = 4; spread <= 5; spread++) {
                int[] books = {spread, spread - 4, spread - 3};
                for (int small = 0; small < 3; small++) {
                    Openbook x = partlyTraded(books, new int[] {0, 100, 100}, new int[] {side, -side, side}, small);
                    lots(x, 1, 2, 2);
                }
            }
            int[] books = {4, 5, 0, 2};
            for (int small = 0; small < 4; small++) {
                Openbook x = partlyTraded(books, new int[] {0, 0, 100, 100}, new int[] {side, side, -side, side}, small);
                lots(x, 1, 2, 2, 2);
            }
        }
    }

    /** The orders of a combination, with 9 each; of the small one, which comes first, 7 have traded. */
    private static Openbook partlyTraded(int[] books, int[] prices, int[] signs, int small) {
        Openbook x = new Openbook();
        for (int k = 0; k < books.length; k++) {
            int part = (small + k) % books.length;
            x.limit(2 * part, books[part], prices[part], 9 * signs[part], 0, 0);
            if (part == small) {
                x.limit((2 * part + 2) % 8, books[part], prices[part], -7 * signs[part], 0, NONE);
            }
        }
        return x;
    }
}
