/** Edges at which several promises meet. */
public final class EdgesTest {
    private static final int NONE = Openbook.NONE;
    private static final Check check = new Check("EdgesTest");

    private EdgesTest() {
    }

    public static void main(String[] args) {
        pegsAtTheirPriceBeforeWork();
        sharesToTheLot();
        leastOfOne();
        refusedByOne();
        goneOrders();
        auctionsAgain();
        auctionCandidates();
        openBooksForPairs();
        openBooksForChains();
        lotsOfChains();
        chainsAgain();
        protectionsInCombinations();
        icebergsInCombinations();
        failOversInTheMidst();
        slotsUsedAgain();
        lotsOfRights();
        smallLosses();
        smallFunds();
        secondCloseOutWithoutLoss();
        narrowBand();
        lessVolumeWithLessDifference();
        turnsInAuctions();
        ownOrdersGoneBeforeTheSharing();
        protectionsOfQuotesAlone();
        bestFromTheLogAlone();
        greatPositions();
        check.end();
    }

    private static void deal(Openbook x, int book, int buyer, int seller, int price, int lots) {
        x.limit(seller, book, price, -lots, 0, 0);
        x.limit(buyer, book, price, lots, 0, NONE);
    }

    private static void lots(Openbook x, int... due) {
        check.is("trades", x.trades(), due.length);
        for (int trade = 0; trade < due.length && trade < x.trades(); trade++) {
            check.is("lots of " + trade, x.trade(trade, 4), due[trade]);
        }
    }

    private static void pegsAtTheirPriceBeforeWork() {
        check.part("pegs until WORK");
        Openbook x = new Openbook();
        x.limit(0, 0, 101, -1, 0, 0);
        x.peg(2, 0, 90, -3, 0);
        x.limit(4, 0, 103, -1, 0, 0);
        x.setRule(0, 0, 0, 2);
        x.limit(1, 0, 101, 2, 0, 0);
        check.is("the peg is met where its price came from", x.trade(0, 2), 2);
        check.is("price", x.trade(0, 3), 101);
        check.is("then it moves", x.priceOf(1), 103);
        Openbook y = new Openbook();
        y.limit(0, 0, 101, -1, 0, 0);
        y.peg(2, 0, 90, -5, 0);
        y.limit(4, 0, 103, -1, 0, 0);
        y.limit(4, 1, 98, 5, 0, 0);
        y.limit(6, 4, 5, 5, 0, 0);
        check.is("combinations pass pegs by", y.trades(), 4);
        check.is("at the next price", y.trade(2, 3), 103);
        check.is("the peg has its rest", y.rest(1), 5);
    }

    private static void sharesToTheLot() {
        check.part("SHARES to the lot");
        Openbook x = new Openbook();
        x.setRule(0, Openbook.SHARES, 5, 0);
        x.limit(0, 0, 100, -10, 0, 0);
        x.limit(2, 0, 100, -20, 0, 0);
        x.limit(4, 0, 100, -1, 0, 0);
        x.limit(6, 0, 100, 13, 0, 0);
        lots(x, 7, 6);
        Openbook y = new Openbook();
        y.setRule(0, Openbook.SHARES, 0, 0);
        y.limit(0, 0, 100, -1, 0, 0);
        y.limit(2, 0, 100, -1, 0, 0);
        y.limit(4, 0, 100, -10, 0, 0);
        y.limit(6, 0, 100, 6, 0, 0);
        lots(y, 1, 5);
        Openbook z = new Openbook();
        z.setRule(0, Openbook.SHARES, 0, 0);
        z.limit(0, 0, 100, -10, 0, 0);
        z.limit(2, 0, 100, -10, 0, 0);
        z.limit(6, 0, 100, 4, 0, 0);
        z.limit(6, 0, 100, 6, 0, 0);
        lots(z, 2, 2, 3, 3);
        Openbook w = new Openbook();
        w.setRule(0, Openbook.SHARES, 1, 0);
        w.limit(0, 0, 100, -1, 0, 0);
        w.limit(2, 0, 100, -5, 0, 0);
        w.limit(4, 0, 100, -5, 0, 0);
        w.limit(6, 0, 100, 4, 0, 0);
        lots(w, 1, 2, 1);
        Openbook v = new Openbook();
        v.setRule(0, Openbook.SHARES, 0, 0);
        v.limit(0, 0, 100, -1, 0, 0);
        v.limit(2, 0, 100, -1, 0, 0);
        v.limit(4, 0, 100, -50, 0, 0);
        v.limit(6, 0, 100, 26, 0, 0);
        lots(v, 1, 25);
        check.is("none for the second", v.rest(1), 1);
    }

    private static void leastOfOne() {
        check.part("least of one");
        Openbook x = new Openbook();
        x.limit(0, 0, 100, 3, 1, 0);
        check.is("gone", x.stateOf(0), Openbook.GONE);
        x.limit(0, 0, 100, -1, 0, 0);
        x.limit(2, 0, 100, 3, 1, 0);
        check.is("not gone", x.rest(2), 2);
    }

    private static void refusedByOne() {
        check.part("refused by one lot");
        Openbook x = new Openbook();
        x.setLimit(0, 0, 5);
        deal(x, 0, 0, 2, 100, 5);
        check.state("one more", x, () -> x.limit(0, 0, 50, 1, 0, 0));
        check.is("one less", x.limit(0, 0, 150, -1, 0, 0), 2);
        check.state("to sell beyond", x, () -> x.limit(0, 0, 150, -10, 0, 0));
        check.is("to sell up to it", x.limit(0, 0, 150, -9, 0, 0), 3);
    }

    private static void goneOrders() {
        check.part("orders that are gone");
        Openbook x = new Openbook();
        x.limit(0, 0, 50, 1, 0, 0);
        x.stop(2, 0, 900, 0, 1);
        x.peg(4, 4, -50, 1, 0);
        check.is("converted", x.convert(0, 1, 1), 3);
        for (int order = 0; order < 3; order++) {
            check.is("gone", x.stateOf(order), Openbook.GONE);
        }
        deal(x, 0, 0, 2, 110, 40);
        x.limit(0, 0, 50, 1, 0, 0);
        x.stop(1, 0, 900, 0, 1);
        x.limit(2, 0, 51, 1, 0, 0);
        check.is("failed", x.fail(0), 2);
        check.is("gone", x.stateOf(5), Openbook.GONE);
        check.is("gone", x.stateOf(6), Openbook.GONE);
        check.is("not gone", x.stateOf(7), Openbook.BOOKED);
    }

    private static void auctionsAgain() {
        check.part("AUCTIONs again");
        Openbook x = new Openbook();
        x.setBand(0, 3);
        for (int time = 0; time < 2; time++) {
            int now = x.pass(1);
            int price = 110 + 10 * time;
            x.auction(0, 1, 0, 0);
            x.limit(0, 0, price, 1, 0, 0);
            x.limit(2, 0, price, -1, 0, 0);
            x.pass(1);
            check.is("is extended", x.endOf(0), now + 6);
            x.pass(5);
            check.is("trades", x.trades(), time + 1);
        }
        Openbook y = new Openbook();
        y.setBand(0, 3);
        y.limit(0, 0, 104, -2, 0, 0);
        y.limit(2, 0, 110, 1, 0, 0);
        y.pass(4);
        check.is("one that a band began is not frozen", y.cancel(0), 2);
    }

    private static void auctionCandidates() {
        check.part("prices of AUCTIONs");
        Openbook x = new Openbook();
        x.auction(0, 5, 0, 0);
        x.limit(0, 0, 105, 1, 0, 0);
        x.limit(2, 0, 95, -1, 0, 0);
        x.limit(4, 1, 100, 1, 0, 0);
        x.stop(4, 0, 100, 100, 1);
        x.peg(4, 0, 100, 1, 0);
        check.is("of limits in the book alone", x.indicated(0, false), 95);
        Openbook y = new Openbook();
        y.auction(0, 5, 0, 0);
        y.limit(2, 0, 98, -5, 0, 0);
        y.limit(0, 0, 104, 5, 0, 0);
        check.is("the nearest", y.indicated(0, false), 98);
        Openbook z = new Openbook();
        z.auction(0, 5, 0, 0);
        z.limit(2, 0, 97, -5, 0, 0);
        z.limit(0, 0, 103, 5, 0, 0);
        check.is("the lowest", z.indicated(0, false), 97);
    }

    private static void openBooksForPairs() {
        check.part("pairs of books that are OPEN");
        for (int book : new int[] {4, 0, 1}) {
            Openbook x = new Openbook();
            x.auction(book, 2, 0, 0);
            x.limit(0, 0, 100, -1, 0, 0);
            x.limit(2, 1, 98, 1, 0, 0);
            x.limit(4, 4, 3, 1, 0, 0);
            check.is("not with " + book, x.trades(), 0);
            x.pass(2);
            check.is("then with " + book, x.trades(), 2);
        }
        Openbook y = new Openbook();
        y.auction(2, 2, 0, 0);
        y.auction(5, 2, 0, 0);
        y.limit(0, 0, 100, -1, 0, 0);
        y.limit(2, 1, 98, 1, 0, 0);
        y.limit(4, 4, 3, 1, 0, 0);
        check.is("others do not matter", y.trades(), 2);
    }

    private static void openBooksForChains() {
        check.part("chains of books that are OPEN");
        for (int book : new int[] {4, 5, 0, 1, 2}) {
            Openbook x = new Openbook();
            x.auction(book, 2, 0, 0);
            x.limit(0, 4, 3, 1, 0, 0);
            x.limit(2, 5, 2, 1, 0, 0);
            x.limit(4, 0, 100, -1, 0, 0);
            x.limit(6, 2, 95, 1, 0, 0);
            check.is("not with " + book, x.trades(), 0);
            x.pass(2);
            check.is("then with " + book, x.trades(), 3);
        }
    }

    private static void lotsOfChains() {
        check.part("lots of chains");
        for (int least = 0; least < 4; least++) {
            for (int side = -1; side <= 1; side += 2) {
                Openbook x = new Openbook();
                int[] lots = {5, 5, 5, 5};
                lots[least] = 2;
                x.limit(0, 4, 3, side * lots[0], 0, 0);
                x.limit(2, 5, 2, side * lots[1], 0, 0);
                x.limit(4, 0, 100, -side * lots[2], 0, 0);
                x.limit(6, 2, 95, side * lots[3], 0, 0);
                lots(x, 2, 2, 2);
            }
        }
        for (int least = 0; least < 3; least++) {
            Openbook x = new Openbook();
            int[] lots = {5, 5, 5};
            lots[least] = 2;
            x.limit(0, 4, 3, lots[0], 0, 0);
            x.limit(4, 0, 100, -lots[1], 0, 0);
            x.limit(6, 1, 97, lots[2], 0, 0);
            lots(x, 2, 2);
        }
    }

    private static void chainsAgain() {
        check.part("chains again and again");
        for (int side = -1; side <= 1; side += 2) {
            Openbook x = new Openbook();
            x.limit(4, 0, 100, -side, 0, 0);
            x.limit(5, 0, 100, -side, 0, 0);
            x.limit(6, 2, 95, side * 5, 0, 0);
            x.limit(0, 4, 3, side * 5, 0, 0);
            x.limit(2, 5, 2, side * 5, 0, 0);
            lots(x, 1, 1, 1, 1, 1, 1);
            check.is("rest", x.rest(4), 3);
        }
    }

    private static void protectionsInCombinations() {
        check.part("protections in combinations");
        int[] books = {4, 0, 1};
        int[] prices = {3, 100, 97};
        for (int quoted = 0; quoted < 3; quoted++) {
            Openbook x = new Openbook();
            x.setProtection(7, 1);
            for (int part = 0; part < 3; part++) {
                tell(x, books[part], prices[part], part == 1 ? -1 : 1, part == quoted, part);
            }
            check.is("made", x.trades(), 2);
            check.is("a part is gone", x.stateOf(quoted), Openbook.GONE);
        }
        books = new int[] {4, 5, 0, 2};
        prices = new int[] {3, 2, 100, 95};
        for (int quoted = 0; quoted < 4; quoted++) {
            Openbook x = new Openbook();
            x.setProtection(7, 1);
            for (int part = 0; part < 4; part++) {
                tell(x, books[part], prices[part], part == 2 ? -1 : 1, part == quoted, part);
            }
            check.is("made", x.trades(), 3);
            check.is("a part is gone", x.stateOf(quoted), Openbook.GONE);
        }
    }

    private static void tell(Openbook x, int book, int price, int side, boolean asQuote, int account) {
        if (!asQuote) {
            x.limit(account, book, price, side, 0, 0);
        } else if (side > 0) {
            x.quote(7, book, price, price + 50, 3);
        } else {
            x.quote(7, book, price - 50, price, 3);
        }
    }

    private static void icebergsInCombinations() {
        check.part("icebergs in combinations");
        int[] books = {4, 0, 1};
        int[] prices = {3, 100, 97};
        for (int hidden = 0; hidden < 3; hidden++) {
            Openbook x = new Openbook();
            for (int part = 0; part < 3; part++) {
                int lots = part == 1 ? -5 : 5;
                x.iceberg(2 * part, books[part], prices[part], lots, part == hidden ? 2 : 5);
            }
            lots(x, 2, 2, 2, 2, 1, 1);
        }
        books = new int[] {4, 5, 0, 2};
        prices = new int[] {3, 2, 100, 95};
        for (int hidden = 0; hidden < 4; hidden++) {
            Openbook x = new Openbook();
            for (int part = 0; part < 4; part++) {
                int lots = part == 2 ? -5 : 5;
                x.iceberg(2 * part, books[part], prices[part], lots, part == hidden ? 2 : 5);
            }
            lots(x, 2, 2, 2, 2, 2, 2, 1, 1, 1);
        }
    }

    private static void failOversInTheMidst() {
        check.part("fail overs in the midst");
        Openbook x = new Openbook();
        check.is("from the log alone", x.bestByLog(0, true), NONE);
        x.limit(0, 0, 90, 1, 0, 0);
        check.is("from the log alone", x.bestByLog(0, true), 90);
        x.auction(0, 9, 9, 0);
        x.setRule(1, 0, 0, 1);
        x.quote(2, 2, 10, 20, 1);
        x.pass(2);
        check.is("quoted", x.quoted(2), 2);
        check.is("all", x.failOver(), 5);
        check.is("no AUCTION", x.endOf(0), NONE);
        check.is("not quoted", x.quoted(2), 0);
        x.limit(0, 1, 100, 1, 0, 0);
        x.limit(1, 1, 100, -1, 0, 0);
        check.is("no self rule", x.trades(), 1);
        Openbook y = new Openbook();
        deal(y, 0, 4, 6, 100, 1);
        y.keep();
        deal(y, 0, 4, 6, 200, 1);
        y.failOver();
        check.is("lost trades have no part in averages", y.allot(4, 0, 0, 1), 100);
    }

    private static void slotsUsedAgain() {
        check.part("a stop after others");
        Openbook x = new Openbook();
        for (int time = 0; time < 45; time++) {
            deal(x, 1, 0, 2, 100, 1);
        }
        x.stop(4, 0, 105, 104, 2);
        deal(x, 0, 0, 2, 105, 1);
        check.is("triggered", x.stateOf(90), Openbook.BOOKED);
        x.bust(45);
        check.is("waits again", x.stateOf(90), Openbook.WAITING);
    }

    private static void lotsOfRights() {
        check.part("rights besides other positions");
        Openbook x = new Openbook();
        deal(x, 1, 0, 2, 100, 7);
        deal(x, 3, 0, 2, 5, 4);
        x.exercise(0, 3, 0);
        check.is("contract 0", x.position(0, 0), 3);
        check.is("contract 1", x.position(0, 1), 7);
        check.is("sold", x.position(2, 0), -3);
    }

    /** Member 0 fails, with a loss when it is closed out without bids that is a multiple of 10. */
    private static Openbook failedWith(int loss, int money, int units, int priceOfUnits) {
        Openbook x = new Openbook();
        deal(x, 0, 0, 2, 100 + loss / 10, 10);
        deal(x, 0, 4, 7, 100, 1);
        deal(x, 1, 4, 7, priceOfUnits, 1);
        x.pay(0, money, units);
        x.setMove(0, 0, -99);
        x.fail(0);
        return x;
    }

    private static void smallLosses() {
        check.part("small losses");
        Openbook x = failedWith(500, 499, 0, 100);
        check.is("layer", x.closeOut(), 3);
        check.is("one", x.member(0, 5), 199);
        Openbook y = failedWith(500, 499, 1, 100);
        check.is("layer", y.closeOut(), 2);
        check.is("one unit", y.member(0, 4), 0);
        check.is("above", y.cash(0), 99);
        Openbook z = failedWith(10, 0, 10, 1);
        check.is("layer", z.closeOut(), 2);
        check.is("units at 1", z.member(0, 4), 0);
        check.is("nothing above", z.cash(0), 0);
        Openbook w = failedWith(10, 10, 5, 100);
        check.is("layer", w.closeOut(), 1);
        check.is("no unit", w.member(0, 4), 5);
    }

    private static void smallFunds() {
        check.part("small funds");
        Openbook x = failedWith(710, 0, 0, 100);
        x.setFund(1, 1);
        x.setFund(2, 0);
        x.setFund(3, 0);
        long cash = x.cash(2);
        check.is("layer", x.closeOut(), 8);
        check.is("fund", x.member(1, 5), 0);
        check.is("assessed for what it was", x.cash(2), cash - 1);
        check.is("the HOUSE has the portfolio, and pays the rest", x.cash(8), -1000 - 8);
    }

    private static void secondCloseOutWithoutLoss() {
        check.part("a second close-out");
        Openbook x = failedWith(10, 10, 0, 100);
        check.is("layer", x.closeOut(), 1);
        x.setMove(1, 0, 99);
        x.fail(1);
        x.bid(3, 9999);
        check.is("no loss", x.closeOut(), 0);
    }

    private static void narrowBand() {
        check.part("a band of 1");
        Openbook x = new Openbook();
        x.setBand(0, 1);
        x.limit(0, 0, 101, -1, 0, 0);
        x.limit(0, 0, 102, -1, 0, 0);
        x.limit(2, 0, 102, 2, 0, 0);
        lots(x, 1);
        check.is("an AUCTION begins", x.endOf(0), 5);
    }

    private static void lessVolumeWithLessDifference() {
        check.part("prices of AUCTIONs: most before least");
        Openbook x = new Openbook();
        x.auction(0, 1, 0, 0);
        x.limit(0, 0, 100, 7, 0, 0);
        x.limit(2, 0, 100, -5, 0, 0);
        x.limit(0, 0, 105, 3, 0, 0);
        check.is("price", x.indicated(0, false), 100);
        check.is("quantity", x.indicated(0, true), 5);
        Openbook y = new Openbook();
        y.auction(0, 1, 0, 0);
        y.limit(0, 0, 105, 3, 0, 0);
        y.limit(0, 0, 100, 7, 0, 0);
        y.limit(2, 0, 100, -5, 0, 0);
        check.is("price, told the other way", y.indicated(0, false), 100);
    }

    private static void turnsInAuctions() {
        check.part("turns in AUCTIONs");
        Openbook x = new Openbook();
        x.auction(0, 1, 0, 0);
        x.market(0, 0, 2);
        x.market(2, 0, 2);
        x.limit(4, 0, 100, -2, 0, 0);
        x.pass(1);
        check.is("the first one at any price", x.trade(0, 1), 0);
        Openbook y = new Openbook();
        y.auction(0, 2, 0, 0);
        int gone = y.limit(6, 0, 90, 1, 0, 0);
        y.limit(0, 0, 100, 2, 0, 0);
        y.cancel(gone);
        y.limit(2, 0, 100, 2, 0, 0);
        y.market(4, 0, -2);
        y.pass(2);
        check.is("the first one at a limit", y.trade(0, 1), 0);
        Openbook z = new Openbook();
        z.auction(0, 2, 0, 0);
        gone = z.limit(6, 0, 110, -1, 0, 0);
        z.market(0, 0, -2);
        z.cancel(gone);
        z.market(2, 0, -2);
        z.limit(4, 0, 100, 2, 0, 0);
        z.pass(2);
        check.is("the first one to sell", z.trade(0, 2), 0);
    }

    private static void ownOrdersGoneBeforeTheSharing() {
        check.part("own orders are gone ahead of the sharing out");
        Openbook x = new Openbook();
        x.setRule(0, Openbook.TIME, 0, 2);
        x.limit(0, 0, 100, -3, 0, 0);
        x.limit(2, 0, 100, -5, 0, 0);
        x.limit(1, 0, 100, 5, 0, 0);
        lots(x, 5);
        Openbook y = new Openbook();
        y.setRule(0, Openbook.SHARES, 2, 2);
        y.limit(0, 0, 100, -8, 0, 0);
        y.limit(2, 0, 100, -4, 0, 0);
        y.limit(4, 0, 100, -4, 0, 0);
        y.limit(1, 0, 100, 6, 0, 0);
        lots(y, 4, 2);
    }

    private static void protectionsOfQuotesAlone() {
        check.part("other orders do not count for a protection");
        Openbook x = new Openbook();
        x.setProtection(0, 3);
        x.quote(0, 0, 95, 105, 5);
        x.limit(0, 0, 100, -9, 0, 0);
        x.limit(2, 0, 100, 9, 0, 0);
        check.is("booked", x.stateOf(0), Openbook.BOOKED);
        x.limit(2, 0, 105, 2, 0, 0);
        check.is("two of the quote", x.stateOf(0), Openbook.BOOKED);
        x.limit(2, 0, 105, 1, 0, 0);
        check.is("three of it", x.stateOf(0), Openbook.GONE);
    }

    private static void bestFromTheLogAlone() {
        check.part("bestByLog without another call");
        Openbook x = new Openbook();
        x.limit(0, 0, 99, 1, 0, 0);
        x.limit(0, 0, 98, 1, 0, 0);
        x.cancel(0);
        check.is("best", x.bestByLog(0, true), 98);
    }

    private static void greatPositions() {
        check.part("21 convert: of each account");
        for (int account = 0; account < 8; account++) {
            Openbook x = new Openbook();
            int other = (account + 1) % 8;
            deal(x, 0, account, other, 100, 50);
            deal(x, 0, other, (account + 2) % 8, 100, 49);
            for (int time = 0; time < 4; time++) {
                x.convert(0, 9, 1);
            }
            check.is("position", x.position(account, 0), 328050);
            check.state("above the most", x, () -> x.convert(0, 4, 1));
            x.convert(0, 3, 1);
            check.is("just below", x.position(account, 0), 984150);
            Openbook y = new Openbook();
            deal(y, 0, other, account, 100, 50);
            deal(y, 0, (account + 2) % 8, other, 100, 49);
            for (int time = 0; time < 4; time++) {
                y.convert(0, 9, 1);
            }
            check.state("below the least", y, () -> y.convert(0, 4, 1));
        }
    }
}
