/** Promises 1 to 8: a new object, and the orders. */
public final class OrdersTest {
    private static final int NONE = Openbook.NONE;
    private static final Check check = new Check("OrdersTest");

    private OrdersTest() {
    }

    public static void main(String[] args) {
        newObject();
        constants();
        limitMatches();
        limitLife();
        limitLeast();
        limitThrows();
        bandBeginsAuction();
        selfRules();
        sharing();
        sharesInTwoSteps();
        sizes();
        market();
        marketInAuction();
        icebergs();
        icebergInAuction();
        pegs();
        pegWaits();
        pegTurns();
        stalePegTrades();
        stops();
        stopCascade();
        stopThrows();
        quotes();
        quoteProtections();
        quoteThrows();
        refusals();
        spreadRefusals();
        mostLive();
        cancels();
        pairs();
        pairsWithSecondSpread();
        chains();
        barredCombinations();
        combinationsAheadOfPegs();
        combinedIcebergs();
        check.end();
    }

    private static void trade(Openbook x, int number, int book, int buyer, int seller, int price, int lots) {
        check.is("trade " + number + " book", x.trade(number, 0), book);
        check.is("trade " + number + " buyer", x.trade(number, 1), buyer);
        check.is("trade " + number + " seller", x.trade(number, 2), seller);
        check.is("trade " + number + " price", x.trade(number, 3), price);
        check.is("trade " + number + " lots", x.trade(number, 4), lots);
        check.is("trade " + number + " busted", x.trade(number, 5), 0);
    }

    private static void newObject() {
        check.part("1 new object");
        Openbook x = new Openbook();
        for (int book = 0; book < 6; book++) {
            int price = book < 4 ? 100 : 0;
            check.is("last", x.last(book, false), price);
            check.is("reference", x.last(book, true), price);
            check.is("end", x.endOf(book), NONE);
            check.is("best to buy", x.best(book, true), NONE);
            check.is("best to sell", x.best(book, false), NONE);
            check.is("rule", x.setRule(book, 1, 3, 2), Openbook.TIME);
            check.is("band", x.setBand(book, 7), 0);
        }
        for (int account = 0; account < 8; account++) {
            check.is("protection", x.setProtection(account, 3), 0);
            check.is("quoted", x.quoted(account), 0);
            for (int contract = 0; contract < 4; contract++) {
                check.is("limit", x.setLimit(account, contract, 5), 999);
            }
        }
        for (int account = 0; account < 9; account++) {
            check.is("cash", x.cash(account), 0);
            check.is("position", x.position(account, account % 4), 0);
        }
        for (int member = 0; member < 4; member++) {
            for (int what = 0; what < 7; what++) {
                check.is("member " + what, x.member(member, what), what == 5 ? 200 : 0);
            }
        }
        check.is("trades", x.trades(), 0);
        check.is("haircut", x.setHaircut(5), 0);
        check.is("move", x.setMove(3, 3, 9), 0);
        check.is("stake", x.stake(), 500);
        Openbook y = new Openbook();
        check.is("no events", y.events(), 0);
        check.is("nothing kept", y.keep(), 0);
        check.is("nothing lost", y.failOver(), 0);
        check.is("first tick", y.pass(1), 1);
    }

    private static void constants() {
        check.part("constants");
        check.is("NONE", Openbook.NONE, -100000);
        check.is("TIME", Openbook.TIME, 0);
        check.is("SHARES", Openbook.SHARES, 1);
        check.is("SIZE", Openbook.SIZE, 2);
        check.is("GONE", Openbook.GONE, 0);
        check.is("BOOKED", Openbook.BOOKED, 1);
        check.is("WAITING", Openbook.WAITING, 2);
    }

    private static void limitMatches() {
        check.part("2 limit: best price, then turn");
        Openbook x = new Openbook();
        check.is("first number", x.limit(0, 0, 101, -3, 0, 0), 0);
        check.is("second number", x.limit(2, 0, 100, -2, 0, 0), 1);
        check.is("third number", x.limit(4, 0, 100, -2, 0, 0), 2);
        check.is("best to sell", x.best(0, false), 100);
        check.is("buyer", x.limit(6, 0, 101, 6, 0, 0), 3);
        check.is("trades", x.trades(), 3);
        trade(x, 0, 0, 6, 2, 100, 2);
        trade(x, 1, 0, 6, 4, 100, 2);
        trade(x, 2, 0, 6, 0, 101, 2);
        check.is("first is gone", x.stateOf(1), Openbook.GONE);
        check.is("left of the dearest", x.rest(0), 1);
        check.is("all of the new one traded", x.stateOf(3), Openbook.GONE);
        check.is("position", x.position(6, 0), 6);
        check.is("cash", x.cash(6), -602);
        check.is("cash of a seller", x.cash(0), 202);
        check.is("last", x.last(0, false), 101);
        check.is("the reference stays", x.last(0, true), 100);
        check.is("not beyond its limit", x.limit(6, 0, 100, 4, 0, 0), 4);
        check.is("stays at its limit", x.priceOf(4), 100);
        check.is("its rest", x.rest(4), 4);
        check.is("the one at 101 stays", x.rest(0), 1);
        check.is("a seller meets the highest", x.limit(2, 0, 1, -5, 0, 0), 5);
        trade(x, 3, 0, 6, 2, 100, 4);
        check.is("what is left is booked", x.priceOf(5), 1);
        check.is("rest", x.rest(5), 1);
        check.is("spread below 0", x.limit(0, 4, -9999, 1, 0, 0), 6);
        x.limit(2, 4, -20, -1, 0, 0);
        check.is("no trade beyond", x.trades(), 4);
        x.limit(2, 4, -9999, -1, 0, 0);
        trade(x, 4, 4, 0, 2, -9999, 1);
        check.is("bought contract 0", x.position(0, 0), -2 + 1);
        check.is("sold contract 1", x.position(0, 1), -1);
        check.is("is paid for a price below 0", x.cash(0), 202 + 9999);
        check.is("last of a spread", x.last(4, false), -9999);
    }

    private static void limitLife() {
        check.part("2 limit: life");
        Openbook x = new Openbook();
        x.limit(0, 0, 100, -2, 0, 0);
        x.limit(2, 0, 100, 5, 0, NONE);
        check.is("the rest of one for at once is gone", x.stateOf(1), Openbook.GONE);
        check.is("after its trade", x.position(2, 0), 2);
        x.limit(2, 0, 90, 1, 0, NONE);
        check.is("nothing is booked", x.best(0, true), NONE);
        x.limit(2, 0, 90, 1, 0, 0);
        x.limit(2, 0, 91, 1, 0, 1);
        x.limit(2, 0, 92, 1, 0, 9);
        check.is("today's", x.endDay(), 1);
        check.is("state", x.stateOf(3), Openbook.GONE);
        check.is("tomorrow's", x.endDay(), 1);
        check.is("state", x.stateOf(4), Openbook.GONE);
        for (int day = 2; day < 9; day++) {
            check.is("none", x.endDay(), 0);
        }
        check.is("the tenth day's", x.endDay(), 1);
        check.is("state", x.stateOf(5), Openbook.GONE);
    }

    private static void limitLeast() {
        check.part("2 limit: least");
        Openbook x = new Openbook();
        x.limit(0, 0, 100, -3, 0, 0);
        x.iceberg(2, 0, 101, -4, 1);
        x.limit(4, 0, 102, -9, 0, 0);
        x.limit(6, 0, 101, -9, 0, 0);
        check.is("own ones and those beyond the limit do not count", x.limit(7, 0, 101, 9, 8, 0), 4);
        check.is("gone at once", x.stateOf(4), Openbook.GONE);
        check.is("without a trade", x.trades(), 0);
        check.is("the number is used up", x.limit(5, 0, 101, 9, 8, 0), 5);
        check.is("rests count, not what is shown", x.position(5, 0), 9);
        Openbook y = new Openbook();
        y.setBand(0, 2);
        y.limit(0, 0, 102, -3, 0, 0);
        y.limit(0, 0, 103, -3, 0, 0);
        y.limit(2, 0, 110, 5, 4, 0);
        check.is("those beyond the band do not count", y.trades(), 0);
        y.limit(2, 0, 110, 3, 3, 0);
        check.is("those in it do", y.position(2, 0), 3);
        Openbook z = new Openbook();
        z.limit(0, 0, 100, 3, 0, 0);
        z.limit(2, 0, 99, -3, 3, NONE);
        check.is("to sell likewise", z.position(2, 0), -3);
        z.limit(2, 0, 99, -3, 1, NONE);
        check.is("none there", z.trades(), 1);
    }

    private static void limitThrows() {
        check.part("2 limit: wrong inputs");
        Openbook x = new Openbook();
        x.limit(0, 0, 100, 3, 0, 0);
        for (int account : new int[] {-1, 8, 9, Integer.MAX_VALUE, Integer.MIN_VALUE}) {
            check.place("account", x, () -> x.limit(account, 0, 100, 1, 0, 0));
            check.place("account ahead of all others", x, () -> x.limit(account, 0, 0, 99, -1, 44));
        }
        for (int book : new int[] {-1, 6, Integer.MAX_VALUE, Integer.MIN_VALUE}) {
            check.place("book", x, () -> x.limit(0, book, 100, 1, 0, 0));
        }
        for (int price : new int[] {0, -1, 10000, NONE, Integer.MAX_VALUE, Integer.MIN_VALUE}) {
            check.range("price", x, () -> x.limit(0, 3, price, 1, 0, 0));
        }
        for (int price : new int[] {-10000, 10000, NONE, Integer.MAX_VALUE, Integer.MIN_VALUE}) {
            check.range("price of a spread", x, () -> x.limit(0, 5, price, 1, 0, 0));
        }
        for (int quantity : new int[] {0, 51, -51, Integer.MAX_VALUE, Integer.MIN_VALUE}) {
            check.range("quantity", x, () -> x.limit(0, 0, 100, quantity, 0, 0));
        }
        for (int least : new int[] {-1, 6, Integer.MAX_VALUE, Integer.MIN_VALUE}) {
            check.range("least", x, () -> x.limit(0, 0, 100, -5, least, 0));
        }
        for (int life : new int[] {-1, 10, NONE + 1, Integer.MAX_VALUE, Integer.MIN_VALUE}) {
            check.range("life", x, () -> x.limit(0, 0, 100, 1, 0, life));
        }
        x.auction(0, 3, 0, 0);
        check.state("for at once in an AUCTION", x, () -> x.limit(0, 0, 100, 1, 0, NONE));
        check.state("least in an AUCTION", x, () -> x.limit(0, 0, 100, 5, 1, 0));
        check.range("range ahead of state", x, () -> x.limit(0, 0, 100, 51, 1, NONE));
        check.is("in another book", x.limit(0, 1, 9999, 1, 1, NONE), 1);
        check.is("lowest price", x.limit(0, 1, 1, 1, 0, 0), 2);
        check.is("most lots", x.limit(0, 2, 9999, 50, 0, 9), 3);
        check.is("most lots to sell", x.limit(0, 5, 9999, -50, 0, 9), 4);
    }

    private static void bandBeginsAuction() {
        check.part("2 limit: a band begins an AUCTION");
        Openbook x = new Openbook();
        x.pass(4);
        x.setBand(0, 3);
        x.limit(0, 0, 103, -2, 0, 0);
        x.limit(0, 0, 104, -2, 0, 0);
        x.peg(2, 0, 90, -2, 1);
        check.is("the peg has a price", x.priceOf(2), 104);
        check.is("number", x.limit(4, 0, 110, 5, 0, 0), 3);
        check.is("traded inside the band", x.trades(), 1);
        check.is("end", x.endOf(0), 9);
        check.is("its rest stays", x.rest(3), 3);
        check.is("at its limit", x.priceOf(3), 110);
        check.is("pegs wait", x.stateOf(2), Openbook.WAITING);
        check.is("not frozen", x.cancel(3), 3);
        check.state("for at once", x, () -> x.limit(4, 0, 110, 5, 0, NONE));
        check.is("ends", x.pass(5), 9);
        check.is("open", x.endOf(0), NONE);
        x.limit(4, 0, 110, 5, 0, NONE);
        check.is("another one", x.endOf(0), 14);
        check.is("at once is gone though an AUCTION begins", x.stateOf(4), Openbook.GONE);
        check.is("peg", x.stateOf(2), Openbook.WAITING);
        Openbook y = new Openbook();
        y.setBand(0, 3);
        y.limit(0, 0, 96, 2, 0, 0);
        y.market(2, 0, -1);
        check.is("below as well", y.endOf(0), 5);
        check.is("any price is gone", y.stateOf(1), Openbook.GONE);
    }

    private static void selfRules() {
        check.part("2 limit: self rules");
        Openbook x = new Openbook();
        x.limit(0, 0, 100, -2, 0, 0);
        x.limit(1, 0, 100, 1, 0, 0);
        check.is("0 lets a member trade with itself", x.trades(), 1);
        x.setRule(0, 0, 0, 1);
        x.limit(2, 0, 99, -2, 0, 0);
        check.is("1 ends", x.limit(1, 0, 100, 5, 0, 0), 3);
        check.is("after the price where none is", x.trades(), 2);
        check.is("the rest of the new one is gone", x.stateOf(3), Openbook.GONE);
        check.is("the own one stays", x.rest(0), 1);
        x.setRule(0, 0, 0, 2);
        x.limit(2, 0, 100, -2, 0, 0);
        x.limit(1, 0, 100, -2, 0, 0);
        x.limit(1, 0, 101, -2, 0, 0);
        check.is("2 takes own ones away", x.limit(0, 0, 100, 5, 0, 0), 7);
        check.is("the first", x.stateOf(0), Openbook.GONE);
        check.is("the other account's, too", x.stateOf(5), Openbook.GONE);
        check.is("not at another price", x.rest(6), 2);
        check.is("and trades with the others", x.trade(2, 4), 2);
        check.is("its rest is booked", x.rest(7), 3);
    }

    private static void sharing() {
        check.part("2 limit: SHARES");
        Openbook x = new Openbook();
        x.setRule(0, Openbook.SHARES, 2, 0);
        x.limit(0, 0, 100, -6, 0, 0);
        x.limit(2, 0, 100, -3, 0, 0);
        x.limit(4, 0, 100, -4, 0, 0);
        x.limit(6, 0, 100, 7, 0, NONE);
        // 2 for the first; 5 are left of 4 + 3 + 4: 1, 1 and 1 by shares, and 1 each for the first two.
        check.is("trades", x.trades(), 3);
        trade(x, 0, 0, 6, 0, 100, 4);
        trade(x, 1, 0, 6, 2, 100, 2);
        trade(x, 2, 0, 6, 4, 100, 1);
        x.limit(6, 0, 100, 9, 0, 0);
        check.is("all, if more is left than they show", x.trades(), 6);
        check.is("and the rest stays", x.rest(4), 3);
        Openbook y = new Openbook();
        y.setRule(0, Openbook.SHARES, 0, 0);
        y.limit(0, 0, 100, -1, 0, 0);
        y.limit(2, 0, 100, -50, 0, 0);
        y.limit(4, 0, 100, -1, 0, 0);
        y.limit(6, 0, 100, 26, 0, 0);
        // 0, 25 and 0 by shares; what is left goes to the first.
        trade(y, 0, 0, 6, 0, 100, 1);
        trade(y, 1, 0, 6, 2, 100, 25);
        check.is("none for the last", y.trades(), 2);
        Openbook z = new Openbook();
        z.setRule(0, Openbook.SHARES, 50, 0);
        z.limit(0, 0, 100, -5, 0, 0);
        z.limit(2, 0, 100, -5, 0, 0);
        z.limit(4, 0, 100, 3, 0, 0);
        check.is("the top takes no more than there is", z.trades(), 1);
        z.limit(4, 0, 100, 3, 0, 0);
        check.is("nor more than is shown", z.trade(1, 4), 2);
        check.is("the other gets what is left", z.trade(2, 4), 1);
    }

    private static void sharesInTwoSteps() {
        check.part("2 limit: SHARES with icebergs");
        Openbook x = new Openbook();
        x.setRule(0, Openbook.SHARES, 0, 0);
        x.iceberg(0, 0, 100, -10, 2);
        x.limit(2, 0, 100, -2, 0, 0);
        x.limit(4, 0, 100, 8, 0, 0);
        // 2 and 2 as they show; the iceberg shows 2 anew, and again 2.
        trade(x, 0, 0, 4, 0, 100, 2);
        trade(x, 1, 0, 4, 2, 100, 2);
        trade(x, 2, 0, 4, 0, 100, 2);
        trade(x, 3, 0, 4, 0, 100, 2);
        check.is("rest", x.rest(0), 4);
    }

    private static void sizes() {
        check.part("2 limit: SIZE");
        Openbook x = new Openbook();
        x.setRule(0, Openbook.SIZE, 0, 0);
        x.limit(0, 0, 100, -2, 0, 0);
        x.limit(2, 0, 100, -5, 0, 0);
        x.iceberg(4, 0, 100, -9, 3);
        x.limit(6, 0, 100, -5, 0, 0);
        x.limit(7, 0, 100, 14, 0, 0);
        trade(x, 0, 0, 7, 2, 100, 5);
        trade(x, 1, 0, 7, 6, 100, 5);
        trade(x, 2, 0, 7, 4, 100, 3);
        trade(x, 3, 0, 7, 0, 100, 1);
        check.is("trades", x.trades(), 4);
        check.is("the iceberg shows anew", x.shown(0, false, 100), 1 + 3);
    }

    private static void market() {
        check.part("3 market");
        Openbook x = new Openbook();
        x.limit(0, 0, 100, -2, 0, 0);
        x.limit(0, 0, 9999, -2, 0, 0);
        check.is("number", x.market(2, 0, 3), 2);
        check.is("takes any price", x.cash(2), -200 - 9999);
        check.is("number", x.market(2, 0, 3), 3);
        check.is("what is left is gone", x.stateOf(3), Openbook.GONE);
        check.is("position", x.position(2, 0), 4);
        x.market(2, 0, -3);
        check.is("to sell with none there", x.trades(), 3);
        x.limit(0, 0, 1, 2, 0, 0);
        x.market(2, 0, -3);
        check.is("to sell", x.trade(3, 3), 1);
        check.place("account", x, () -> x.market(8, 0, 0));
        check.place("account", x, () -> x.market(-1, 0, 1));
        check.place("book", x, () -> x.market(0, 6, 1));
        check.place("book", x, () -> x.market(0, -1, 1));
        for (int quantity : new int[] {0, 51, -51, Integer.MIN_VALUE}) {
            check.range("quantity", x, () -> x.market(0, 0, quantity));
        }
        x.setLimit(4, 0, 2);
        check.state("refused", x, () -> x.market(4, 0, 3));
        check.state("refused", x, () -> x.market(4, 0, -3));
        check.is("within the limit", x.market(4, 0, 2), 7);
    }

    private static void marketInAuction() {
        check.part("3 market in an AUCTION");
        Openbook x = new Openbook();
        x.auction(0, 2, 0, 0);
        check.is("number", x.market(0, 0, 5), 0);
        check.is("booked", x.stateOf(0), Openbook.BOOKED);
        check.is("without a price", x.priceOf(0), NONE);
        check.is("aside of the best", x.best(0, true), NONE);
        check.is("and of what is shown", x.shown(0, true, NONE), 0);
        x.market(2, 0, -3);
        check.is("the reference, if there are no limits", x.indicated(0, false), 100);
        check.is("quantity", x.indicated(0, true), 3);
        x.pass(2);
        trade(x, 0, 0, 0, 2, 100, 3);
        check.is("what is left is gone", x.stateOf(0), Openbook.GONE);
        check.is("open", x.endOf(0), NONE);
    }

    private static void icebergs() {
        check.part("4 iceberg");
        Openbook x = new Openbook();
        check.is("number", x.iceberg(0, 0, 100, -7, 3), 0);
        x.limit(2, 0, 100, -2, 0, 0);
        check.is("shown", x.shown(0, false, 100), 5);
        x.limit(4, 0, 100, 4, 0, 0);
        trade(x, 0, 0, 4, 0, 100, 3);
        trade(x, 1, 0, 4, 2, 100, 1);
        check.is("shows anew", x.shown(0, false, 100), 3 + 1);
        check.is("rest", x.rest(0), 4);
        x.limit(4, 0, 100, 2, 0, 0);
        trade(x, 2, 0, 4, 2, 100, 1);
        trade(x, 3, 0, 4, 0, 100, 1);
        check.is("what it shows yet", x.shown(0, false, 100), 2);
        x.limit(4, 0, 100, 2, 0, 0);
        check.is("no more than its rest", x.shown(0, false, 100), 1);
        x.limit(4, 0, 100, 9, 0, 0);
        check.is("gone", x.stateOf(0), Openbook.GONE);
        check.is("the buyer stays", x.rest(5), 8);
        x.iceberg(0, 0, 90, -20, 5);
        check.is("trades as a new one with its whole rest", x.position(4, 0), 4 + 2 + 2 + 9);
        check.is("shows what is left", x.shown(0, false, 90), 5);
        check.is("its rest", x.rest(6), 12);
        check.is("for today", x.endDay(), 1);
        check.place("account", x, () -> x.iceberg(8, 0, 100, 1, 2));
        check.place("book", x, () -> x.iceberg(0, 6, 100, 1, 2));
        check.range("price", x, () -> x.iceberg(0, 0, 0, 1, 1));
        check.range("price", x, () -> x.iceberg(0, 4, 10000, 1, 1));
        check.range("quantity", x, () -> x.iceberg(0, 0, 100, 0, 1));
        check.range("quantity", x, () -> x.iceberg(0, 0, 100, Integer.MIN_VALUE, 1));
        check.range("show", x, () -> x.iceberg(0, 0, 100, -5, 0));
        check.range("show", x, () -> x.iceberg(0, 0, 100, -5, 6));
        check.is("shows all", x.iceberg(2, 4, -3, -5, 5), 7);
        x.setLimit(0, 0, 4);
        check.state("refused", x, () -> x.iceberg(0, 0, 50, 50, 1));
    }

    private static void icebergInAuction() {
        check.part("4 iceberg in an AUCTION");
        Openbook x = new Openbook();
        x.iceberg(0, 0, 100, -9, 3);
        x.limit(2, 0, 100, 2, 0, 0);
        check.is("shows one yet", x.shown(0, false, 100), 1);
        x.auction(0, 2, 0, 0);
        check.is("in an AUCTION, too", x.shown(0, false, 100), 1);
        x.iceberg(4, 0, 100, -2, 1);
        x.limit(6, 0, 100, 4, 0, 0);
        check.is("with its whole rest", x.indicated(0, true), 4);
        x.pass(2);
        trade(x, 1, 0, 6, 0, 100, 4);
        check.is("rest", x.rest(0), 3);
        check.is("they show anew", x.shown(0, false, 100), 3 + 1);
        x.limit(6, 0, 100, 4, 0, 0);
        trade(x, 2, 0, 6, 0, 100, 3);
        trade(x, 3, 0, 6, 4, 100, 1);
    }

    private static void pegs() {
        check.part("5 peg");
        Openbook x = new Openbook();
        check.is("number", x.peg(0, 0, 105, 5, 2), 0);
        check.is("waits without a price", x.stateOf(0), Openbook.WAITING);
        check.is("no price", x.priceOf(0), NONE);
        check.is("no best one", x.best(0, true), NONE);
        x.limit(2, 0, 100, 1, 0, 0);
        check.is("less its offset", x.priceOf(0), 98);
        check.is("booked", x.stateOf(0), Openbook.BOOKED);
        x.limit(2, 0, 110, 1, 0, 0);
        check.is("no further than its limit", x.priceOf(0), 105);
        check.is("shown", x.shown(0, true, 105), 5);
        x.peg(0, 0, 9999, 5, 0);
        check.is("pegs do not follow pegs", x.priceOf(3), 110);
        x.cancel(2);
        check.is("back", x.priceOf(0), 98);
        check.is("back", x.priceOf(3), 100);
        x.cancel(1);
        check.is("waits again", x.stateOf(0), Openbook.WAITING);
        check.is("waits again", x.stateOf(3), Openbook.WAITING);
        x.peg(4, 0, 103, -2, 1);
        x.limit(6, 0, 110, -2, 0, 0);
        check.is("more to sell", x.priceOf(4), 111);
        x.limit(6, 0, 101, -2, 0, 0);
        check.is("not below its limit", x.priceOf(4), 103);
        check.is("best with pegs", x.best(0, false), 101);
        check.is("for today", x.endDay(), 5);
        check.place("account", x, () -> x.peg(8, 0, 0, 1, 0));
        check.place("book", x, () -> x.peg(0, -1, 100, 1, 0));
        check.range("price", x, () -> x.peg(0, 0, 0, 1, 0));
        check.range("price", x, () -> x.peg(0, 5, -10000, 1, 0));
        check.range("quantity", x, () -> x.peg(0, 0, 100, 51, 0));
        check.range("offset", x, () -> x.peg(0, 0, 100, 1, -1));
        check.range("offset", x, () -> x.peg(0, 0, 100, 1, 100));
        x.setLimit(0, 0, 2);
        check.state("refused", x, () -> x.peg(0, 0, 100, 3, 99));
        check.is("not refused", x.peg(0, 0, 100, 2, 99), 7);
    }

    private static void pegWaits() {
        check.part("5 peg: out of range, and in an AUCTION");
        Openbook x = new Openbook();
        x.limit(0, 0, 50, 1, 0, 0);
        x.peg(2, 0, 100, 1, 49);
        x.peg(2, 0, 100, 1, 50);
        check.is("the lowest price", x.priceOf(1), 1);
        check.is("below it waits", x.stateOf(2), Openbook.WAITING);
        x.limit(0, 3, 9990, -1, 0, 0);
        x.peg(2, 3, 100, -1, 9);
        x.peg(2, 3, 100, -1, 10);
        check.is("the highest price", x.priceOf(4), 9999);
        check.is("above it waits", x.stateOf(5), Openbook.WAITING);
        x.limit(0, 4, -9990, 1, 0, 0);
        x.peg(2, 4, 0, 1, 9);
        x.peg(2, 4, 0, 1, 10);
        check.is("the lowest price of a spread", x.priceOf(7), -9999);
        check.is("below it waits", x.stateOf(8), Openbook.WAITING);
        x.auction(0, 3, 0, 0);
        check.is("waits in an AUCTION", x.stateOf(1), Openbook.WAITING);
        check.is("has no price", x.priceOf(1), NONE);
        check.is("its rest", x.rest(1), 1);
        x.pass(3);
        check.is("has one again", x.priceOf(1), 1);
    }

    private static void pegTurns() {
        check.part("5 peg: turns");
        Openbook x = new Openbook();
        x.limit(0, 0, 100, 1, 0, 0);
        x.peg(2, 0, 100, 1, 0);
        x.peg(4, 0, 100, 1, 0);
        x.limit(6, 0, 100, 1, 0, 0);
        x.market(7, 0, -4);
        check.is("first", x.trade(0, 1), 0);
        check.is("a peg keeps its turn", x.trade(1, 1), 2);
        check.is("by rising numbers", x.trade(2, 1), 4);
        check.is("last", x.trade(3, 1), 6);
        Openbook y = new Openbook();
        y.limit(0, 0, 99, 1, 0, 0);
        y.peg(2, 0, 100, 1, 0);
        y.limit(4, 0, 100, 1, 0, 0);
        y.market(7, 0, -2);
        check.is("another price, a new turn", y.trade(0, 1), 4);
        check.is("behind all others", y.trade(1, 1), 2);
    }

    private static void stalePegTrades() {
        check.part("5 peg: keeps its price until WORK");
        Openbook x = new Openbook();
        x.limit(0, 0, 101, -1, 0, 0);
        x.peg(2, 0, 90, -3, 0);
        x.limit(4, 0, 103, -1, 0, 0);
        x.limit(6, 0, 101, 2, 0, 0);
        check.is("it is met at its price", x.trade(1, 3), 101);
        check.is("and moves then", x.priceOf(1), 103);
        check.is("its rest", x.rest(1), 2);
    }

    private static void stops() {
        check.part("6 stop");
        Openbook x = new Openbook();
        x.limit(0, 0, 105, -1, 0, 0);
        x.limit(0, 0, 106, -9, 0, 0);
        x.limit(2, 0, 95, 9, 0, 0);
        check.is("number", x.stop(4, 0, 105, 0, 3), 3);
        check.is("to sell", x.stop(4, 0, 95, 94, -2), 4);
        check.is("waits", x.stateOf(3), Openbook.WAITING);
        check.is("no price", x.priceOf(3), NONE);
        check.is("rest", x.rest(3), 3);
        x.market(6, 0, 1);
        check.is("triggered at its trigger", x.position(4, 0), 3);
        check.is("at any price", x.trade(1, 3), 106);
        check.is("gone", x.stateOf(3), Openbook.GONE);
        check.is("the other one waits", x.stateOf(4), Openbook.WAITING);
        x.market(6, 0, -8);
        check.is("triggered below", x.trade(3, 2), 4);
        check.is("what is left stays at its limit", x.priceOf(4), 94);
        check.is("booked", x.stateOf(4), Openbook.BOOKED);
        check.is("rest", x.rest(4), 1);
        check.is("triggered at once", x.stop(2, 0, 95, 97, -1), 7);
        check.is("booked", x.priceOf(7), 97);
        check.is("for today", x.endDay(), 3);
    }

    private static void stopCascade() {
        check.part("6 stop: the lowest number first, one after the other");
        Openbook x = new Openbook();
        for (int price = 101; price <= 105; price++) {
            x.limit(0, 1, price, -1, 0, 0);
        }
        x.stop(2, 1, 102, 0, 1);
        x.stop(4, 1, 101, 0, 1);
        x.stop(6, 1, 101, 0, 1);
        x.auction(1, 1, 0, 0);
        check.is("waits in an AUCTION", x.stop(7, 1, 90, 0, 1), 8);
        check.is("state", x.stateOf(8), Openbook.WAITING);
        x.pass(1);
        check.is("as soon as it is open", x.trade(0, 1), 7);
        check.is("then the lowest that is due", x.trade(1, 1), 4);
        check.is("then that with the lowest number", x.trade(2, 1), 2);
        check.is("then the last", x.trade(3, 1), 6);
        Openbook y = new Openbook();
        y.setBand(0, 2);
        y.limit(0, 0, 101, -1, 0, 0);
        y.limit(0, 0, 110, -1, 0, 0);
        y.stop(2, 0, 101, 0, 1);
        y.stop(4, 0, 101, 115, 1);
        y.limit(6, 0, 101, 1, 0, 0);
        check.is("one that begins an AUCTION is gone at any price", y.stateOf(2), Openbook.GONE);
        check.is("end", y.endOf(0), 5);
        check.is("the next one waits for it", y.stateOf(3), Openbook.WAITING);
    }

    private static void stopThrows() {
        check.part("6 stop: wrong inputs");
        Openbook x = new Openbook();
        check.place("account", x, () -> x.stop(8, 0, 100, 0, 1));
        check.place("spread", x, () -> x.stop(0, 4, 100, 0, 1));
        check.place("book", x, () -> x.stop(0, -1, 0, 0, 0));
        check.range("trigger", x, () -> x.stop(0, 0, 0, 0, 1));
        check.range("trigger", x, () -> x.stop(0, 0, 10000, 0, 1));
        check.range("price", x, () -> x.stop(0, 0, 100, -1, 1));
        check.range("price", x, () -> x.stop(0, 0, 100, 10000, 1));
        check.range("quantity", x, () -> x.stop(0, 0, 100, 0, 0));
        check.range("quantity", x, () -> x.stop(0, 0, 100, 0, -51));
        x.setLimit(0, 0, 9);
        x.stop(0, 0, 200, 0, 5);
        check.state("refused", x, () -> x.stop(0, 0, 200, 0, 5));
        check.is("to sell", x.stop(0, 0, 1, 0, -9), 1);
        check.is("up to the limit", x.stop(0, 0, 200, 0, 4), 2);
    }

    private static void quotes() {
        check.part("7 quote");
        Openbook x = new Openbook();
        check.is("number", x.quote(0, 0, 98, 102, 5), 0);
        check.is("to buy", x.priceOf(0), 98);
        check.is("to sell", x.priceOf(1), 102);
        check.is("in another book", x.quote(0, 1, 90, 91, 1), 2);
        check.is("in place of the one before", x.quote(0, 0, 99, 101, 4), 4);
        check.is("gone", x.stateOf(0), Openbook.GONE);
        check.is("gone", x.stateOf(1), Openbook.GONE);
        check.is("not in the other book", x.stateOf(2), Openbook.BOOKED);
        x.quote(1, 0, 97, 100, 2);
        check.is("of another account", x.stateOf(4), Openbook.BOOKED);
        x.limit(2, 0, 100, 1, 0, 0);
        check.is("one leg falls", x.rest(7), 1);
        check.is("the next quote trades as it is told", x.quote(4, 0, 100, 101, 3), 9);
        trade(x, 1, 0, 4, 1, 100, 1);
        check.is("rest", x.rest(9), 2);
        check.is("turn behind", x.shown(0, false, 101), 4 + 3);
        check.is("for one day", x.endDay(), 7);
        x.auction(0, 2, 2, 0);
        x.quote(0, 0, 99, 101, 4);
        check.is("in a frozen AUCTION, too", x.quote(0, 0, 98, 103, 4), 13);
        check.is("gone", x.stateOf(11), Openbook.GONE);
        check.is("quantity", x.shown(0, true, 98), 4);
    }

    private static void quoteProtections() {
        check.part("7 quote: protections");
        Openbook x = new Openbook();
        x.setProtection(0, 4);
        x.quote(0, 0, 98, 102, 5);
        x.quote(0, 1, 98, 102, 5);
        x.limit(2, 0, 102, 2, 0, 0);
        x.limit(2, 1, 98, -1, 0, 0);
        check.is("three are fewer", x.stateOf(0), Openbook.BOOKED);
        x.limit(2, 0, 102, 1, 0, 0);
        for (int order = 0; order < 4; order++) {
            check.is("all are gone in all books", x.stateOf(order), Openbook.GONE);
        }
        x.quote(0, 0, 98, 102, 3);
        x.limit(2, 0, 102, 3, 0, 0);
        check.is("counted from the latest quote on", x.stateOf(7), Openbook.BOOKED);
        x.limit(4, 0, 99, -6, 0, 0);
        check.is("to buy", x.quote(0, 0, 99, 102, 5), 11);
        check.is("taken away as it is told", x.stateOf(11), Openbook.GONE);
        check.is("all of it traded first", x.position(0, 0), -6 + 5);
        check.is("the other one is not told", x.stateOf(12), Openbook.GONE);
        check.is("but its number is used up", x.limit(2, 2, 50, 1, 0, 0), 13);
        x.setProtection(0, 0);
        x.quote(0, 3, 98, 102, 50);
        x.limit(2, 3, 102, 50, 0, 0);
        check.is("0 is none", x.stateOf(14), Openbook.BOOKED);
        x.quote(0, 3, 98, 102, 50);
        x.limit(2, 3, 102, 10, 0, 0);
        x.setProtection(0, 5);
        check.is("not ahead of the next fall", x.stateOf(17), Openbook.BOOKED);
        x.limit(2, 3, 102, 1, 0, 0);
        check.is("but then", x.stateOf(17), Openbook.GONE);
        Openbook y = new Openbook();
        y.setProtection(0, 2);
        y.quote(0, 0, 98, 102, 3);
        y.quote(0, 0, 98, 102, 3);
        y.limit(4, 0, 102, -3, 0, 0);
        y.limit(1, 0, 102, -3, 0, 0);
        y.limit(6, 0, 102, 5, 0, 0);
        check.is("what showed traded whole", y.trade(0, 4), 3);
        check.is("then the next", y.trade(1, 2), 4);
        check.is("no more of the quote", y.stateOf(2), Openbook.GONE);
        passedOver();
    }

    private static void passedOver() {
        check.part("7 quote: passed over");
        Openbook x = new Openbook();
        x.setRule(0, Openbook.SHARES, 0, 0);
        x.setProtection(0, 1);
        x.quote(0, 0, 90, 100, 4);
        x.limit(2, 0, 100, -4, 0, 0);
        x.limit(4, 0, 100, 4, 0, 0);
        trade(x, 0, 0, 4, 0, 100, 2);
        trade(x, 1, 0, 4, 2, 100, 2);
        check.is("the rest of the quote is gone", x.stateOf(1), Openbook.GONE);
        Openbook y = new Openbook();
        y.setProtection(0, 2);
        y.setRule(0, Openbook.SIZE, 0, 0);
        y.limit(2, 0, 100, -2, 0, 0);
        y.quote(0, 0, 90, 100, 6);
        y.quote(1, 0, 91, 100, 1);
        y.setProtection(1, 1);
        y.limit(4, 0, 100, 8, 0, 0);
        trade(y, 0, 0, 4, 0, 100, 6);
        trade(y, 1, 0, 4, 2, 100, 2);
        check.is("trades", y.trades(), 2);
        Openbook z = new Openbook();
        z.setProtection(0, 1);
        z.limit(2, 0, 100, -1, 0, 0);
        z.limit(2, 0, 100, -1, 0, 0);
        z.quote(0, 0, 100, 101, 5);
        check.is("a new quote that is taken away stops", z.trades(), 1);
        check.is("position", z.position(0, 0), 1);
    }

    private static void quoteThrows() {
        check.part("7 quote: wrong inputs");
        Openbook x = new Openbook();
        x.quote(0, 0, 98, 102, 5);
        check.place("account", x, () -> x.quote(8, 0, 0, 0, 0));
        check.place("book", x, () -> x.quote(0, 6, 98, 102, 5));
        check.range("bid", x, () -> x.quote(0, 0, 0, 102, 5));
        check.range("ask", x, () -> x.quote(0, 0, 98, 10000, 5));
        check.range("ask at bid", x, () -> x.quote(0, 0, 98, 98, 5));
        check.range("ask below bid", x, () -> x.quote(0, 0, 98, 97, 5));
        check.range("quantity", x, () -> x.quote(0, 0, 98, 102, 0));
        check.range("quantity", x, () -> x.quote(0, 0, 98, 102, -1));
        check.range("quantity", x, () -> x.quote(0, 0, 98, 102, 51));
        check.range("bid of a spread", x, () -> x.quote(0, 4, -10000, 102, 5));
        x.setLimit(0, 0, 9);
        check.state("the quote before counts", x, () -> x.quote(0, 0, 98, 102, 5));
        check.is("within", x.quote(0, 0, 98, 102, 4), 2);
        x.limit(2, 0, 98, -3, 0, 0);
        check.state("only the one to buy is refused", x, () -> x.quote(0, 0, 98, 102, 6));
        x.setLimit(4, 1, 3);
        check.state("the other contract of a spread", x, () -> x.quote(4, 4, -1, 1, 4));
        check.is("not refused", x.quote(4, 4, -1, 1, 3), 5);
        Openbook y = new Openbook();
        for (int order = 0; order < 38; order++) {
            y.limit(order % 8, 2, 50, 1, 0, 0);
        }
        check.is("38 are live", y.quote(0, 0, 98, 102, 1), 38);
        check.state("40 are live", y, () -> y.quote(0, 0, 98, 102, 1));
        y.cancel(0);
        check.state("39 are live", y, () -> y.quote(0, 0, 98, 102, 1));
        y.cancel(1);
        check.is("38 are live", y.quote(0, 0, 98, 102, 1), 40);
    }

    private static void refusals() {
        check.part("2 limit: refused");
        Openbook x = new Openbook();
        x.setLimit(0, 0, 10);
        x.limit(0, 0, 90, 4, 0, 0);
        x.peg(0, 0, 90, 2, 0);
        x.stop(0, 0, 200, 0, 1);
        check.state("rests of all live orders count", x, () -> x.limit(0, 0, 80, 4, 0, 0));
        check.is("up to the limit", x.limit(0, 0, 80, 3, 0, 0), 3);
        check.is("to sell is another thing", x.limit(0, 0, 120, -10, 0, 0), 4);
        check.state("to sell", x, () -> x.limit(0, 0, 120, -1, 0, 0));
        x.limit(2, 0, 120, 4, 0, 0);
        check.is("position", x.position(0, 0), -4);
        check.state("sold and to be sold", x, () -> x.limit(0, 0, 120, -1, 0, 0));
        check.is("what was sold can be bought", x.limit(0, 0, 80, 4, 0, 0), 6);
        check.state("no more", x, () -> x.market(0, 0, 1));
        x.setLimit(0, 0, 0);
        check.is("limits are for orders from now on", x.rest(0), 4);
        check.state("none", x, () -> x.limit(0, 0, 80, 1, 0, 0));
        check.is("of the account alone", x.limit(1, 0, 80, 1, 0, 0), 7);
        check.is("of the contract alone", x.limit(0, 1, 80, 1, 0, 0), 8);
    }

    private static void spreadRefusals() {
        check.part("2 limit: refused in spreads");
        Openbook x = new Openbook();
        x.setLimit(0, 1, 5);
        check.is("sells contract 1", x.limit(0, 4, 0, 3, 0, 0), 0);
        check.is("buys contract 1", x.limit(0, 5, 0, 4, 0, 0), 1);
        check.state("buys 1 by selling in 4", x, () -> x.limit(0, 4, 0, -2, 0, 0));
        check.state("sells 1 by buying in 4", x, () -> x.limit(0, 4, 0, 3, 0, 0));
        check.state("sells 1 by selling in 5", x, () -> x.limit(0, 5, 0, -3, 0, 0));
        check.state("sells 1", x, () -> x.limit(0, 1, 300, -3, 0, 0));
        check.state("buys 1", x, () -> x.limit(0, 1, 50, 2, 0, 0));
        check.is("buys 1", x.limit(0, 1, 50, 1, 0, 0), 2);
        check.is("sells 1", x.limit(0, 1, 300, -2, 0, 0), 3);
    }

    private static void mostLive() {
        check.part("2 limit: 40 live orders");
        Openbook x = new Openbook();
        for (int order = 0; order < 40; order++) {
            check.is("number", order % 2 == 0 ? x.limit(0, 0, 50, 1, 0, 0) : x.stop(1, 0, 9000, 0, 1), order);
        }
        check.state("limit", x, () -> x.limit(2, 0, 50, 1, 0, NONE));
        check.state("market", x, () -> x.market(2, 0, -1));
        check.state("iceberg", x, () -> x.iceberg(2, 0, 50, 1, 1));
        check.state("peg", x, () -> x.peg(2, 0, 50, 1, 0));
        check.state("stop", x, () -> x.stop(2, 0, 50, 0, -1));
        check.state("quote", x, () -> x.quote(2, 0, 50, 60, 1));
        check.is("one is taken", x.cancel(1), 1);
        check.is("one more", x.market(2, 0, -1), 40);
        check.is("and one for the one that traded", x.limit(2, 0, 50, -1, 0, 0), 41);
    }

    private static void cancels() {
        check.part("8 cancel");
        Openbook x = new Openbook();
        x.limit(0, 0, 100, 5, 0, 0);
        x.limit(2, 0, 100, -2, 0, 0);
        check.is("its rest", x.cancel(0), 3);
        check.is("gone", x.stateOf(0), Openbook.GONE);
        check.is("none there", x.best(0, true), NONE);
        for (int order : new int[] {0, 1, 2, -1, Integer.MAX_VALUE, Integer.MIN_VALUE}) {
            check.place("no live order", x, () -> x.cancel(order));
        }
        x.stop(0, 0, 50, 0, -3);
        x.limit(0, 0, 90, 4, 0, 0);
        x.limit(0, 1, 90, 4, 0, 0);
        x.peg(0, 0, 95, 7, 0);
        x.auction(0, 4, 2, 1);
        check.is("not frozen yet", x.limit(0, 0, 91, 1, 0, 0), 6);
        x.pass(2);
        check.is("not frozen yet", x.cancel(6), 1);
        x.pass(1);
        check.state("frozen", x, () -> x.cancel(3));
        check.state("a stop", x, () -> x.cancel(2));
        check.state("a peg", x, () -> x.cancel(5));
        check.is("in another book", x.cancel(4), 4);
        x.pass(2);
        check.is("open again", x.cancel(3), 4);
        check.is("waiting", x.cancel(2), 3);
        check.is("waiting", x.cancel(5), 7);
    }

    private static void pairs() {
        check.part("WORK: combinations A and B");
        Openbook x = new Openbook();
        x.limit(0, 0, 100, -5, 0, 0);
        x.limit(2, 1, 98, 4, 0, 0);
        x.limit(4, 4, 1, 3, 0, 0);
        check.is("s below p - q", x.trades(), 0);
        x.limit(4, 4, 3, 3, 0, 0);
        check.is("A", x.trades(), 2);
        trade(x, 0, 0, 4, 0, 100, 3);
        trade(x, 1, 1, 2, 4, 98, 3);
        check.is("gone", x.stateOf(3), Openbook.GONE);
        check.is("rest", x.rest(0), 2);
        check.is("rest", x.rest(1), 1);
        check.is("the last price of the spread stays", x.last(4, false), 0);
        check.is("cash", x.cash(4), -6);
        Openbook y = new Openbook();
        y.limit(0, 4, 2, -3, 0, 0);
        y.limit(2, 0, 101, 5, 0, 0);
        y.limit(6, 1, 98, -2, 0, 0);
        check.is("B", y.trades(), 2);
        trade(y, 0, 0, 2, 0, 101, 2);
        trade(y, 1, 1, 0, 6, 98, 2);
        check.is("rest", y.rest(0), 1);
    }

    private static void pairsWithSecondSpread() {
        check.part("WORK: combinations C and D");
        Openbook x = new Openbook();
        x.limit(0, 1, 100, -1, 0, 0);
        x.limit(2, 2, 99, 1, 0, 0);
        x.limit(4, 5, 1, 1, 0, 0);
        trade(x, 0, 1, 4, 0, 100, 1);
        trade(x, 1, 2, 2, 4, 99, 1);
        Openbook y = new Openbook();
        y.limit(0, 1, 100, 1, 0, 0);
        y.limit(2, 2, 99, -1, 0, 0);
        y.limit(4, 5, 1, -1, 0, 0);
        trade(y, 0, 1, 0, 4, 100, 1);
        trade(y, 1, 2, 4, 2, 99, 1);
    }

    private static void chains() {
        check.part("WORK: combinations E and F");
        Openbook x = new Openbook();
        x.limit(0, 4, 3, 4, 0, 0);
        x.limit(2, 5, 2, 3, 0, 0);
        x.limit(4, 0, 100, -9, 0, 0);
        x.limit(6, 2, 94, 9, 0, 0);
        check.is("s + t below p - q", x.trades(), 0);
        x.limit(6, 2, 95, 2, 0, 0);
        check.is("E", x.trades(), 3);
        trade(x, 0, 0, 0, 4, 100, 2);
        trade(x, 1, 1, 2, 0, 97, 2);
        trade(x, 2, 2, 6, 2, 95, 2);
        check.is("last of 1", x.last(1, false), 97);
        check.is("last of 5 stays", x.last(5, false), 0);
        check.is("rests", x.rest(0) * 10 + x.rest(1), 21);
        Openbook y = new Openbook();
        y.limit(0, 4, 3, -4, 0, 0);
        y.limit(2, 5, 2, -3, 0, 0);
        y.limit(4, 0, 100, 9, 0, 0);
        y.limit(6, 2, 95, -2, 0, 0);
        check.is("F", y.trades(), 3);
        trade(y, 0, 0, 4, 0, 100, 2);
        trade(y, 1, 1, 0, 2, 97, 2);
        trade(y, 2, 2, 2, 6, 95, 2);
        Openbook z = new Openbook();
        z.auction(1, 3, 0, 0);
        z.limit(0, 4, 3, 4, 0, 0);
        z.limit(2, 5, 2, 3, 0, 0);
        z.limit(4, 0, 100, -9, 0, 0);
        z.limit(6, 2, 96, 9, 0, 0);
        check.is("book 1 has to be open", z.trades(), 0);
        z.pass(3);
        check.is("as soon as it is", z.trades(), 3);
    }

    private static void barredCombinations() {
        check.part("WORK: combinations that are not made");
        Openbook x = new Openbook();
        x.setBand(1, 2);
        x.limit(0, 0, 100, -5, 0, 0);
        x.limit(2, 1, 97, 4, 0, 0);
        x.limit(4, 4, 9, 3, 0, 0);
        check.is("beyond a band", x.trades(), 0);
        x.setBand(1, 3);
        check.is("within it", x.trades(), 2);
        Openbook y = new Openbook();
        y.setRule(0, 0, 0, 1);
        y.limit(5, 0, 100, -5, 0, 0);
        y.limit(2, 1, 97, 4, 0, 0);
        y.limit(4, 4, 9, 3, 0, 0);
        check.is("with itself", y.trades(), 0);
        y.setRule(0, 0, 0, 0);
        check.is("without a self rule", y.trades(), 2);
        Openbook z = new Openbook();
        z.limit(0, 4, 9999, 1, 0, 0);
        z.limit(2, 5, -100, 1, 0, 0);
        z.limit(4, 0, 100, -1, 0, 0);
        z.limit(6, 2, 100, 1, 0, 0);
        check.is("beyond 1 to 9999", z.trades(), 0);
        z.limit(2, 5, -99, 1, 0, 0);
        check.is("at 1", z.trades(), 3);
        check.is("price", z.trade(1, 3), 1);
    }

    private static void combinationsAheadOfPegs() {
        check.part("WORK: combinations without pegs");
        Openbook x = new Openbook();
        x.limit(0, 0, 101, -1, 0, 0);
        x.peg(2, 0, 90, -5, 0);
        x.limit(4, 1, 98, 5, 0, 0);
        x.limit(6, 4, 3, 5, 0, 0);
        check.is("only the one that is no peg", x.trades(), 2);
        trade(x, 0, 0, 6, 0, 101, 1);
        check.is("the peg waits then", x.stateOf(1), Openbook.WAITING);
        check.is("its rest", x.rest(1), 5);
    }

    private static void combinedIcebergs() {
        check.part("WORK: combinations with icebergs and quotes");
        Openbook x = new Openbook();
        x.iceberg(0, 0, 100, -5, 2);
        x.limit(2, 1, 98, 9, 0, 0);
        x.limit(4, 0, 100, -1, 0, 0);
        x.limit(6, 4, 3, 4, 0, 0);
        check.is("the least that one shows", x.trade(0, 4), 2);
        check.is("then the next one's turn", x.trade(2, 2), 4);
        check.is("then it again", x.trade(4, 4), 1);
        check.is("trades", x.trades(), 6);
        check.is("shown", x.shown(0, false, 100), 1);
        Openbook y = new Openbook();
        y.setProtection(0, 1);
        y.quote(0, 0, 98, 100, 5);
        y.quote(0, 4, 2, 4, 2);
        y.limit(2, 1, 98, 9, 0, 0);
        check.is("made whole ahead of a protection", y.trades(), 2);
        check.is("quantity", y.trade(1, 4), 2);
        check.is("gone", y.stateOf(0), Openbook.GONE);
        check.is("gone", y.stateOf(3), Openbook.GONE);
    }
}
