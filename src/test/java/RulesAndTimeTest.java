/** Promises 9 to 15: rules and time. */
public final class RulesAndTimeTest {
    private static final int NONE = Openbook.NONE;
    private static final Check check = new Check("RulesAndTimeTest");

    private RulesAndTimeTest() {
    }

    public static void main(String[] args) {
        rules();
        bands();
        protections();
        limits();
        auctionBegins();
        auctionThrows();
        auctionPrice();
        auctionPriceTies();
        auctionOrder();
        auctionSelfAndProtection();
        auctionExtends();
        auctionFreezesWhenExtended();
        auctionWithoutTrades();
        passCountsQuotes();
        passEndsByRisingBooks();
        passThrows();
        days();
        daysWithAuctions();
        check.end();
    }

    private static void rules() {
        check.part("9 setRule");
        Openbook x = new Openbook();
        check.is("the rule before", x.setRule(3, Openbook.SIZE, 50, 2), Openbook.TIME);
        check.is("the rule before", x.setRule(3, Openbook.SHARES, 0, 0), Openbook.SIZE);
        check.is("the rule before", x.setRule(3, Openbook.TIME, 0, 0), Openbook.SHARES);
        check.is("of this book alone", x.setRule(5, Openbook.SIZE, 0, 1), Openbook.TIME);
        for (int book : new int[] {-1, 6, Integer.MIN_VALUE}) {
            check.place("book", x, () -> x.setRule(book, 9, 0, 0));
        }
        for (int bad : new int[] {-1, 3, Integer.MAX_VALUE, Integer.MIN_VALUE}) {
            check.range("rule", x, () -> x.setRule(0, bad, 0, 0));
            check.range("self", x, () -> x.setRule(0, 0, 0, bad));
        }
        check.range("top", x, () -> x.setRule(0, 0, -1, 0));
        check.range("top", x, () -> x.setRule(0, 0, 51, 0));
        check.is("nothing changed", x.setRule(0, 0, 0, 0), 0);
    }

    private static void bands() {
        check.part("10 setBand");
        Openbook x = new Openbook();
        check.is("that before", x.setBand(5, 9999), 0);
        check.is("that before", x.setBand(5, 0), 9999);
        check.place("book", x, () -> x.setBand(6, -1));
        check.place("book", x, () -> x.setBand(-1, 0));
        check.range("width", x, () -> x.setBand(0, -1));
        check.range("width", x, () -> x.setBand(0, 10000));
        x.setBand(4, 2);
        x.limit(0, 4, -2, -1, 0, 0);
        x.limit(2, 4, 5, 1, 0, 0);
        check.is("at the band", x.trades(), 1);
        x.limit(0, 4, 3, -1, 0, 0);
        x.limit(2, 4, 5, 1, 0, 0);
        check.is("beyond it", x.trades(), 1);
        check.is("an AUCTION", x.endOf(4), 5);
        Openbook y = new Openbook();
        y.limit(0, 0, 9999, -1, 0, 0);
        y.market(2, 0, 1);
        check.is("0 is none", y.trades(), 1);
    }

    private static void protections() {
        check.part("11 setProtection");
        Openbook x = new Openbook();
        check.is("that before", x.setProtection(7, 999), 0);
        check.is("that before", x.setProtection(7, 0), 999);
        check.place("account", x, () -> x.setProtection(8, -1));
        check.place("account", x, () -> x.setProtection(-1, 0));
        check.range("lots", x, () -> x.setProtection(0, -1));
        check.range("lots", x, () -> x.setProtection(0, 1000));
        x.setProtection(0, 3);
        x.quote(0, 0, 90, 110, 9);
        x.quote(1, 0, 90, 110, 9);
        x.limit(2, 0, 110, 12, 0, 0);
        check.is("of the account alone", x.stateOf(3), Openbook.BOOKED);
        check.is("gone", x.stateOf(0), Openbook.GONE);
    }

    private static void limits() {
        check.part("12 setLimit");
        Openbook x = new Openbook();
        check.is("that before", x.setLimit(7, 3, 0), 999);
        check.is("that before", x.setLimit(7, 3, 999), 0);
        check.place("account", x, () -> x.setLimit(8, 0, -1));
        check.place("account", x, () -> x.setLimit(-1, 0, 0));
        check.place("contract", x, () -> x.setLimit(0, 4, 0));
        check.place("contract", x, () -> x.setLimit(0, -1, 0));
        check.range("most", x, () -> x.setLimit(0, 0, -1));
        check.range("most", x, () -> x.setLimit(0, 0, 1000));
        x.setLimit(0, 3, 1);
        check.state("refused", x, () -> x.market(0, 3, -2));
        check.is("within", x.limit(0, 3, 100, -1, 0, 0), 0);
    }

    private static void auctionBegins() {
        check.part("13 auction");
        Openbook x = new Openbook();
        x.pass(3);
        check.is("the tick in which it ends", x.auction(2, 20, 20, 9), 32);
        check.is("end", x.endOf(2), 32);
        check.is("of this book alone", x.endOf(1), NONE);
        check.is("the shortest", x.auction(1, 1, 0, 0), 4);
        x.limit(0, 2, 100, 5, 0, 0);
        x.limit(2, 2, 90, -5, 0, 0);
        check.is("collected", x.trades(), 0);
        check.is("best", x.best(2, true), 100);
        check.is("best", x.best(2, false), 90);
        x.pass(1);
        check.is("ended", x.endOf(1), NONE);
        check.is("not yet", x.endOf(2), 32);
    }

    private static void auctionThrows() {
        check.part("13 auction: wrong inputs");
        Openbook x = new Openbook();
        x.auction(1, 4, 0, 0);
        check.place("book", x, () -> x.auction(6, 0, 0, 0));
        check.place("book", x, () -> x.auction(-1, 1, 0, 0));
        check.range("ticks", x, () -> x.auction(0, 0, 0, 0));
        check.range("ticks", x, () -> x.auction(0, 21, 0, 0));
        check.range("freeze", x, () -> x.auction(0, 4, 5, 0));
        check.range("freeze", x, () -> x.auction(0, 4, -1, 0));
        check.range("extra", x, () -> x.auction(0, 4, 4, -1));
        check.range("extra", x, () -> x.auction(0, 4, 4, 10));
        check.range("range ahead of state", x, () -> x.auction(1, 0, 0, 0));
        check.state("it is in one", x, () -> x.auction(1, 4, 0, 0));
        check.is("another", x.auction(0, 4, 4, 9), 13);
    }

    private static void auctionPrice() {
        check.part("41 indicated: at which most can trade");
        Openbook x = new Openbook();
        check.is("none when OPEN", x.indicated(0, false), NONE);
        check.is("0 when OPEN", x.indicated(0, true), 0);
        x.auction(0, 5, 0, 0);
        check.is("none with nothing", x.indicated(0, false), NONE);
        check.is("0 with nothing", x.indicated(0, true), 0);
        x.limit(0, 0, 105, 10, 0, 0);
        check.is("none with one side", x.indicated(0, false), NONE);
        x.limit(2, 0, 95, -4, 0, 0);
        // Both limits let 4 trade with 6 over, and are as far away from the reference: the lower one.
        check.is("the lower one", x.indicated(0, false), 95);
        check.is("quantity", x.indicated(0, true), 4);
        x.limit(2, 0, 104, -5, 0, 0);
        check.is("more can trade", x.indicated(0, false), 104);
        check.is("quantity", x.indicated(0, true), 9);
        x.market(4, 0, -3);
        check.is("any price counts", x.indicated(0, true), 10);
        x.limit(6, 0, 90, 5, 0, 0);
        check.is("less at a lower one", x.indicated(0, false), 104);
        x.pass(5);
        check.is("reference", x.last(0, true), 104);
        check.is("last", x.last(0, false), 104);
        check.is("position", x.position(0, 0), 10);
        check.is("the one at any price first", x.position(4, 0), -3);
        check.is("then the better limit", x.position(2, 0), -7);
        check.is("none when OPEN again", x.indicated(0, true), 0);
        check.is("what is left stays", x.best(0, false), 104);
        check.is("what is left stays", x.best(0, true), 90);
    }

    private static void auctionPriceTies() {
        check.part("41 indicated: of several");
        Openbook x = new Openbook();
        x.auction(0, 5, 0, 0);
        x.limit(0, 0, 104, 5, 0, 0);
        x.limit(2, 0, 98, -5, 0, 0);
        check.is("the nearest to the reference", x.indicated(0, false), 98);
        x.limit(4, 0, 104, -2, 0, 0);
        check.is("the least difference", x.indicated(0, false), 98);
        x.limit(6, 0, 98, 3, 0, 0);
        // 8 and 5 at 98; 5 and 7 at 104.
        check.is("the least difference", x.indicated(0, false), 104);
        Openbook y = new Openbook();
        y.auction(0, 5, 0, 0);
        y.limit(0, 0, 103, 5, 0, 0);
        y.limit(2, 0, 97, -5, 0, 0);
        check.is("the lowest", y.indicated(0, false), 97);
        y.limit(4, 0, 102, -1, 0, 0);
        y.limit(4, 0, 102, 1, 0, 0);
        check.is("quantity", y.indicated(0, true), 6);
        check.is("price", y.indicated(0, false), 102);
        Openbook z = new Openbook();
        z.auction(4, 5, 0, 0);
        z.limit(0, 4, -7, 5, 0, 0);
        z.limit(2, 4, -9, -5, 0, 0);
        check.is("of a spread below 0", z.indicated(4, false), -7);
        z.market(4, 4, -5);
        z.market(4, 4, 5);
        check.is("quantity", z.indicated(4, true), 10);
    }

    private static void auctionOrder() {
        check.part("14 pass: what trades first in an AUCTION");
        Openbook x = new Openbook();
        x.auction(0, 1, 0, 0);
        x.limit(0, 0, 101, 2, 0, 0);
        x.limit(1, 0, 102, 2, 0, 0);
        x.market(2, 0, 2);
        x.limit(3, 0, 102, 2, 0, 0);
        x.limit(4, 0, 99, -3, 0, 0);
        x.limit(5, 0, 98, -2, 0, 0);
        x.market(6, 0, -1);
        check.is("price", x.indicated(0, false), 102);
        x.pass(1);
        int[][] due = {{2, 6, 1}, {2, 5, 1}, {1, 5, 1}, {1, 4, 1}, {3, 4, 2}};
        check.is("trades", x.trades(), due.length);
        for (int trade = 0; trade < due.length; trade++) {
            check.is("buyer", x.trade(trade, 1), due[trade][0]);
            check.is("seller", x.trade(trade, 2), due[trade][1]);
            check.is("lots", x.trade(trade, 4), due[trade][2]);
            check.is("price", x.trade(trade, 3), 102);
        }
        check.is("the worse limit is left", x.rest(0), 2);
    }

    private static void auctionSelfAndProtection() {
        check.part("14 pass: self rules do not count, protections do");
        Openbook x = new Openbook();
        x.setRule(0, 0, 0, 2);
        x.setProtection(0, 2);
        x.auction(0, 1, 0, 0);
        x.quote(0, 0, 98, 99, 2);
        x.quote(0, 1, 98, 99, 2);
        x.limit(1, 0, 99, 1, 0, 0);
        x.limit(2, 0, 99, 5, 0, 0);
        x.limit(4, 0, 99, -1, 0, 0);
        x.pass(1);
        check.is("with itself", x.trade(0, 1) * 10 + x.trade(0, 2), 10);
        check.is("one left", x.trade(1, 1) * 10 + x.trade(1, 2), 20);
        check.is("the quotes are gone at once", x.stateOf(2), Openbook.GONE);
        check.is("in this book, too", x.stateOf(0), Openbook.GONE);
        check.is("then the others", x.trade(2, 2), 4);
        check.is("trades", x.trades(), 3);
        check.is("what is left stays", x.rest(5), 3);
    }

    private static void auctionExtends() {
        check.part("14 pass: an AUCTION is extended once");
        Openbook x = new Openbook();
        x.setBand(0, 3);
        x.auction(0, 2, 0, 0);
        x.limit(0, 0, 104, 5, 0, 0);
        x.limit(2, 0, 104, -3, 0, 0);
        check.is("now", x.pass(2), 2);
        check.is("5 ticks more", x.endOf(0), 7);
        check.is("no trade", x.trades(), 0);
        x.pass(4);
        check.is("not yet", x.endOf(0), 7);
        x.pass(1);
        check.is("not again", x.endOf(0), NONE);
        check.is("trade", x.trade(0, 3), 104);
        check.is("reference", x.last(0, true), 104);
        Openbook y = new Openbook();
        y.setBand(0, 4);
        y.auction(0, 2, 0, 0);
        y.limit(0, 0, 104, 5, 0, 0);
        y.limit(2, 0, 104, -3, 0, 0);
        y.pass(2);
        check.is("at the band it ends", y.trades(), 1);
        y.auction(0, 1, 0, 0);
        y.market(0, 0, 1);
        y.limit(2, 0, 109, -1, 0, 0);
        y.cancel(0);
        y.pass(1);
        check.is("the next one can be extended, too", y.endOf(0), 8);
    }

    private static void auctionFreezesWhenExtended() {
        check.part("13 auction: frozen when extended, too");
        Openbook x = new Openbook();
        x.setBand(0, 3);
        x.auction(0, 3, 2, 0);
        x.limit(0, 0, 104, 5, 0, 0);
        x.limit(2, 0, 104, -3, 0, 0);
        x.limit(4, 0, 50, 1, 0, 0);
        x.limit(4, 0, 51, 1, 0, 0);
        x.pass(1);
        check.state("frozen", x, () -> x.cancel(2));
        x.pass(2);
        check.is("extended", x.endOf(0), 8);
        check.is("not frozen", x.cancel(2), 1);
        x.pass(2);
        check.is("still in it", x.endOf(0), 8);
        x.pass(1);
        check.state("frozen again", x, () -> x.cancel(3));
        Openbook y = new Openbook();
        y.limit(0, 0, 100, 1, 0, 0);
        y.auction(0, 2, 2, 0);
        check.state("all of its ticks", y, () -> y.cancel(0));
        Openbook z = new Openbook();
        z.limit(0, 0, 100, 1, 0, 0);
        z.auction(0, 2, 0, 0);
        z.pass(1);
        check.is("none of them", z.cancel(0), 1);
    }

    private static void auctionWithoutTrades() {
        check.part("14 pass: an AUCTION without trades");
        Openbook x = new Openbook();
        x.limit(0, 0, 104, 5, 0, 0);
        x.limit(2, 0, 104, -5, 0, 0);
        x.auction(0, 2, 0, 0);
        x.limit(2, 0, 110, -5, 0, 0);
        x.market(4, 0, -1);
        x.pass(2);
        check.is("the reference stays", x.last(0, true), 100);
        check.is("the last stays", x.last(0, false), 104);
        check.is("any price is gone", x.stateOf(3), Openbook.GONE);
        check.is("limits stay", x.stateOf(2), Openbook.BOOKED);
    }

    private static void passCountsQuotes() {
        check.part("14 pass: quotes are counted");
        Openbook x = new Openbook();
        x.quote(0, 0, 90, 110, 5);
        x.quote(0, 1, 90, 110, 5);
        x.quote(3, 4, -5, 5, 5);
        check.is("now", x.pass(1), 1);
        check.is("for each book", x.quoted(0), 2);
        check.is("of a spread, too", x.quoted(3), 1);
        check.is("of no other account", x.quoted(1), 0);
        x.auction(1, 3, 0, 0);
        x.pass(3);
        check.is("not in an AUCTION, not in the tick in which it ends", x.quoted(0), 2 + 3);
        x.pass(1);
        check.is("open again", x.quoted(0), 5 + 2);
        x.cancel(0);
        x.pass(2);
        check.is("both must be live", x.quoted(0), 7 + 2);
        x.limit(0, 0, 90, 5, 0, 0);
        x.pass(1);
        check.is("of a quote", x.quoted(0), 9 + 1);
        x.limit(2, 1, 110, 4, 0, 0);
        x.pass(1);
        check.is("a part is enough", x.quoted(0), 11);
        x.limit(2, 1, 110, 1, 0, 0);
        x.pass(1);
        check.is("none left", x.quoted(0), 11);
    }

    private static void passEndsByRisingBooks() {
        check.part("14 pass: WORK after each book that is opened");
        Openbook x = new Openbook();
        x.auction(4, 1, 0, 0);
        x.auction(0, 2, 0, 0);
        x.auction(1, 2, 0, 0);
        x.limit(0, 0, 100, -5, 0, 0);
        x.limit(1, 0, 100, 2, 0, 0);
        x.limit(2, 1, 98, 4, 0, 0);
        x.limit(3, 1, 98, -1, 0, 0);
        x.limit(4, 4, 3, 3, 0, 0);
        x.stop(6, 0, 100, 0, 1);
        x.pass(2);
        check.is("book 0 first", x.trade(0, 0), 0);
        check.is("then its stops", x.trade(1, 1), 6);
        check.is("then book 1", x.trade(2, 0), 1);
        check.is("then what they imply", x.trade(3, 1), 4);
        check.is("all of it", x.trades(), 5);
        check.is("lots", x.trade(3, 4), 2);
    }

    private static void passThrows() {
        check.part("14 pass: wrong inputs");
        Openbook x = new Openbook();
        for (int ticks : new int[] {0, -1, 21, Integer.MAX_VALUE, Integer.MIN_VALUE}) {
            check.range("ticks", x, () -> x.pass(ticks));
        }
        check.is("most", x.pass(20), 20);
        check.is("and one", x.pass(1), 21);
    }

    private static void days() {
        check.part("15 endDay");
        Openbook x = new Openbook();
        x.limit(0, 0, 104, 5, 0, 0);
        x.limit(2, 0, 104, -2, 0, 1);
        x.limit(2, 4, -3, -2, 0, 1);
        x.limit(0, 4, -3, 1, 0, 1);
        x.peg(4, 0, 90, 1, 0);
        x.stop(4, 0, 900, 0, 1);
        x.quote(6, 2, 10, 20, 1);
        check.is("gone", x.endDay(), 5);
        check.is("reference", x.last(0, true), 104);
        check.is("reference of a spread", x.last(4, true), -3);
        check.is("tomorrow's stays", x.stateOf(2), Openbook.BOOKED);
        check.is("tomorrow's is of today then", x.endDay(), 1);
        check.is("none", x.endDay(), 0);
        x.limit(0, 0, 104, 5, 0, 0);
        check.is("life is from today on", x.endDay(), 1);
    }

    private static void daysWithAuctions() {
        check.part("15 endDay: wrong states");
        Openbook x = new Openbook();
        x.limit(0, 0, 104, 5, 0, 0);
        x.auction(5, 2, 0, 0);
        check.state("a book is in an AUCTION", x, () -> x.endDay());
        x.pass(2);
        check.is("none is", x.endDay(), 1);
    }
}
