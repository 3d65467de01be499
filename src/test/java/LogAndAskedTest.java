/** Promises 29 to 48: the log, and what is asked. */
public final class LogAndAskedTest {
    private static final int NONE = Openbook.NONE;
    private static final Check check = new Check("LogAndAskedTest");

    private LogAndAskedTest() {
    }

    public static void main(String[] args) {
        keepsAndFailsOver();
        failOverUndoesAll();
        eventsCount();
        foundFromTheLog();
        logThrows();
        bests();
        shows();
        states();
        rests();
        prices();
        lasts();
        ends();
        indications();
        tradesAndTrade();
        positionsAndCash();
        quoteds();
        members();
        stakes();
        check.end();
    }

    private static void deal(Openbook x, int book, int buyer, int seller, int price, int lots) {
        x.limit(seller, book, price, -lots, 0, 0);
        x.limit(buyer, book, price, lots, 0, NONE);
    }

    private static void keepsAndFailsOver() {
        check.part("29 keep, 30 failOver");
        Openbook x = new Openbook();
        check.is("none", x.keep(), 0);
        x.limit(0, 0, 100, -5, 0, 0);
        x.limit(2, 0, 100, 2, 0, 0);
        check.is("kept", x.keep(), 2);
        check.is("kept again", x.keep(), 2);
        String kept = View.of(x);
        x.limit(2, 0, 100, 1, 0, 0);
        x.pass(3);
        x.setLimit(0, 0, 1);
        check.is("lost", x.failOver(), 3);
        check.same("all is as it was", View.of(x), kept);
        check.is("events", x.events(), 2);
        check.is("the number comes again", x.limit(2, 0, 100, 1, 0, 0), 2);
        check.is("time, too", x.pass(1), 1);
        check.is("lost", x.failOver(), 2);
        check.is("none more", x.failOver(), 0);
        check.is("the limit is as it was", x.setLimit(0, 0, 5), 999);
        Openbook y = new Openbook();
        y.market(0, 0, 1);
        check.is("without any kept", y.failOver(), 1);
        check.same("all is new", View.of(y), View.of(new Openbook()));
    }

    private static void failOverUndoesAll() {
        check.part("30 failOver: of each kind of event");
        Openbook x = new Openbook();
        deal(x, 0, 0, 2, 110, 40);
        deal(x, 3, 4, 2, 10, 9);
        x.keep();
        String kept = View.of(x);
        x.iceberg(0, 0, 90, 9, 2);
        x.peg(0, 0, 90, 9, 2);
        x.stop(0, 0, 900, 0, 2);
        x.quote(6, 1, 90, 95, 2);
        x.cancel(5);
        x.setRule(0, 1, 2, 2);
        x.setBand(1, 3);
        x.setProtection(6, 1);
        x.auction(1, 9, 9, 0);
        x.pass(4);
        x.pass(5);
        x.endDay();
        x.adjust(0, 120);
        x.giveUp(0, true, 6);
        x.allot(2, 7, 3, -1);
        x.exercise(4, 2, 5);
        x.convert(0, 3, 2);
        x.bust(1);
        x.setMove(0, 0, 9);
        x.setHaircut(9);
        x.pay(0, 9, 9);
        x.setFund(2, 9);
        x.fail(1);
        x.bid(2, 9);
        x.closeOut();
        check.is("lost", x.failOver(), 25);
        check.same("all is as it was", View.of(x), kept);
        check.is("rule", x.setRule(0, 0, 0, 0), 0);
        check.is("band", x.setBand(1, 0), 0);
        check.is("protection", x.setProtection(6, 0), 0);
        check.is("move", x.setMove(0, 0, 0), 0);
        check.is("haircut", x.setHaircut(0), 0);
        check.is("log", x.positionByLog(0, 0), x.position(0, 0));
    }

    private static void eventsCount() {
        check.part("31 events");
        Openbook x = new Openbook();
        check.is("none", x.events(), 0);
        x.setBand(0, 0);
        check.is("also if nothing is another one then", x.events(), 1);
        check.state("one that throws", x, () -> x.closeOut());
        check.range("one that throws", x, () -> x.pass(0));
        x.keep();
        x.failOver();
        x.best(0, true);
        x.positionByLog(0, 0);
        check.is("is none, nor are others", x.events(), 1);
        x.market(0, 0, 1);
        x.quote(0, 0, 1, 2, 1);
        check.is("a quote is one", x.events(), 3);
    }

    private static void foundFromTheLog() {
        check.part("32 positionByLog, 33 bestByLog");
        Openbook x = new Openbook();
        check.is("none", x.positionByLog(8, 3), 0);
        check.is("none", x.bestByLog(5, true), NONE);
        deal(x, 4, 0, 2, 5, 4);
        x.peg(6, 1, 99, 1, 0);
        x.limit(6, 1, 98, 1, 0, 0);
        x.limit(7, 1, 103, -1, 0, 0);
        check.is("also of those not kept", x.positionByLog(0, 0), 4);
        check.is("position", x.positionByLog(2, 1), 4);
        check.is("best to buy", x.bestByLog(1, true), 98);
        check.is("best to sell", x.bestByLog(1, false), 103);
        x.failOver();
        check.is("after a fail over", x.positionByLog(0, 0), 0);
        check.is("best", x.bestByLog(1, true), NONE);
        deal(x, 0, 1, 3, 90, 7);
        check.is("goes on", x.positionByLog(1, 0), 7);
        x.keep();
        deal(x, 0, 1, 3, 90, 7);
        check.is("goes on", x.positionByLog(1, 0), 14);
        x.failOver();
        check.is("to what was kept", x.positionByLog(1, 0), 7);
        check.is("and so the live one", x.position(1, 0), 7);
    }

    private static void logThrows() {
        check.part("32 positionByLog, 33 bestByLog: wrong inputs");
        Openbook x = new Openbook();
        for (int bad : new int[] {-1, 9, Integer.MAX_VALUE, Integer.MIN_VALUE}) {
            check.place("account", x, () -> x.positionByLog(bad, 0));
            check.place("account", x, () -> x.position(bad, 0));
            check.place("account", x, () -> x.cash(bad));
            check.place("book", x, () -> x.bestByLog(bad, true));
            check.place("book", x, () -> x.best(bad, true));
            check.place("book", x, () -> x.shown(bad, true, 1));
            check.place("book", x, () -> x.last(bad, true));
            check.place("book", x, () -> x.endOf(bad));
            check.place("book", x, () -> x.indicated(bad, true));
            check.place("account", x, () -> x.quoted(bad));
        }
        for (int bad : new int[] {-1, 4, Integer.MAX_VALUE, Integer.MIN_VALUE}) {
            check.place("contract", x, () -> x.positionByLog(0, bad));
            check.place("contract", x, () -> x.position(0, bad));
        }
        check.place("book", x, () -> x.bestByLog(6, true));
        check.place("book", x, () -> x.best(6, true));
        check.place("book", x, () -> x.shown(6, true, 1));
        check.place("book", x, () -> x.last(6, true));
        check.place("book", x, () -> x.endOf(6));
        check.place("book", x, () -> x.indicated(6, true));
        check.place("the HOUSE has no quotes", x, () -> x.quoted(8));
    }

    private static void bests() {
        check.part("34 best");
        Openbook x = new Openbook();
        x.limit(0, 0, 95, 1, 0, 0);
        x.limit(0, 0, 97, 1, 0, 0);
        x.limit(0, 0, 96, 1, 0, 0);
        x.limit(2, 0, 105, -1, 0, 0);
        x.limit(2, 0, 103, -1, 0, 0);
        check.is("the highest", x.best(0, true), 97);
        check.is("the lowest", x.best(0, false), 103);
        check.is("of this book", x.best(1, true), NONE);
        x.limit(0, 4, -9999, 1, 0, 0);
        check.is("of a spread", x.best(4, true), -9999);
        Openbook y = new Openbook();
        y.limit(0, 0, 101, -1, 0, 0);
        y.peg(2, 0, 90, -5, 0);
        y.limit(0, 0, 99, 1, 0, 0);
        y.auction(0, 3, 0, 0);
        y.market(4, 0, 1);
        check.is("any price aside", y.best(0, true), 99);
        check.is("limits in an AUCTION", y.best(0, false), 101);
    }

    private static void shows() {
        check.part("35 shown");
        Openbook x = new Openbook();
        x.limit(0, 0, 95, 3, 0, 0);
        x.iceberg(2, 0, 95, 9, 2);
        x.peg(4, 0, 95, 4, 0);
        x.stop(4, 0, 200, 95, 7);
        check.is("together", x.shown(0, true, 95), 3 + 2 + 4);
        check.is("of this side", x.shown(0, false, 95), 0);
        check.is("at this price", x.shown(0, true, 94), 0);
        check.is("at any number", x.shown(0, true, NONE), 0);
        check.is("at any number", x.shown(0, true, Integer.MIN_VALUE), 0);
        check.is("at any number", x.shown(0, true, Integer.MAX_VALUE), 0);
    }

    private static void states() {
        check.part("36 stateOf");
        Openbook x = new Openbook();
        for (int order : new int[] {0, -1, 5, Integer.MAX_VALUE, Integer.MIN_VALUE, NONE}) {
            check.is("never was", x.stateOf(order), Openbook.GONE);
        }
        x.limit(0, 0, 95, 3, 0, 0);
        x.stop(0, 0, 200, 95, 3);
        check.is("in a book", x.stateOf(0), Openbook.BOOKED);
        check.is("waiting", x.stateOf(1), Openbook.WAITING);
        x.cancel(1);
        check.is("gone", x.stateOf(1), Openbook.GONE);
    }

    private static void rests() {
        check.part("37 rest");
        Openbook x = new Openbook();
        x.limit(0, 0, 95, -9, 0, 0);
        check.is("not with its sign", x.rest(0), 9);
        x.limit(2, 0, 95, 4, 0, 0);
        check.is("rest", x.rest(0), 5);
        for (int order : new int[] {1, 2, -1, Integer.MAX_VALUE, Integer.MIN_VALUE}) {
            check.place("no live order", x, () -> x.rest(order));
            check.place("no live order", x, () -> x.priceOf(order));
        }
    }

    private static void prices() {
        check.part("38 priceOf");
        Openbook x = new Openbook();
        x.limit(0, 0, 95, -9, 0, 0);
        x.stop(0, 0, 50, 40, -9);
        x.peg(0, 0, 95, 9, 0);
        check.is("limit", x.priceOf(0), 95);
        check.is("waiting", x.priceOf(1), NONE);
        check.is("waiting", x.priceOf(2), NONE);
        x.limit(0, 0, 90, 9, 0, 0);
        check.is("a peg's", x.priceOf(2), 90);
    }

    private static void lasts() {
        check.part("39 last");
        Openbook x = new Openbook();
        deal(x, 1, 0, 2, 107, 1);
        check.is("last", x.last(1, false), 107);
        check.is("reference", x.last(1, true), 100);
        check.is("of this book", x.last(0, false), 100);
        check.is("of a spread", x.last(5, false), 0);
    }

    private static void ends() {
        check.part("40 endOf");
        Openbook x = new Openbook();
        check.is("OPEN", x.endOf(0), NONE);
        x.auction(0, 2, 0, 1);
        check.is("tick", x.endOf(0), 3);
        x.pass(3);
        check.is("OPEN", x.endOf(0), NONE);
    }

    private static void indications() {
        check.part("41 indicated");
        Openbook x = new Openbook();
        x.auction(0, 2, 0, 1);
        x.limit(0, 0, 97, 4, 0, 0);
        check.is("none can trade", x.indicated(0, false), NONE);
        check.is("0", x.indicated(0, true), 0);
        x.iceberg(2, 0, 97, -3, 1);
        check.is("price", x.indicated(0, false), 97);
        check.is("quantity", x.indicated(0, true), 3);
        x.pass(3);
        check.is("OPEN", x.indicated(0, false), NONE);
        check.is("OPEN", x.indicated(0, true), 0);
    }

    private static void tradesAndTrade() {
        check.part("42 trades, 43 trade");
        Openbook x = new Openbook();
        check.is("none", x.trades(), 0);
        deal(x, 5, 0, 2, -7, 3);
        check.is("one", x.trades(), 1);
        int[] due = {5, 0, 2, -7, 3, 0};
        for (int what = 0; what < 6; what++) {
            check.is("what " + what, x.trade(0, what), due[what]);
        }
        for (int what : new int[] {-1, 6, Integer.MAX_VALUE, Integer.MIN_VALUE}) {
            check.range("what", x, () -> x.trade(0, what));
            check.place("trade", x, () -> x.trade(1, what));
        }
        x.bust(0);
        check.is("busted", x.trade(0, 5), 1);
        check.is("there it was", x.trades(), 1);
    }

    private static void positionsAndCash() {
        check.part("44 position, 45 cash");
        Openbook x = new Openbook();
        deal(x, 5, 0, 2, -7, 3);
        deal(x, 3, 4, 2, 9, 2);
        check.is("bought", x.position(0, 1), 3);
        check.is("sold", x.position(0, 2), -3);
        check.is("the other side", x.position(2, 1), -3);
        check.is("the other side", x.position(2, 2), 3);
        check.is("none", x.position(0, 0), 0);
        check.is("right", x.position(4, 3), 2);
        check.is("cash", x.cash(0), 21);
        check.is("cash", x.cash(2), -21 + 18);
        check.is("the HOUSE", x.cash(8), 0);
        check.is("the HOUSE", x.position(8, 0), 0);
    }

    private static void quoteds() {
        check.part("46 quoted");
        Openbook x = new Openbook();
        x.pass(4);
        check.is("none", x.quoted(7), 0);
        x.quote(7, 5, -3, -2, 1);
        x.pass(4);
        check.is("ticks", x.quoted(7), 4);
    }

    private static void members() {
        check.part("47 member");
        Openbook x = new Openbook();
        check.is("fund", x.member(3, 5), 200);
        x.pay(3, 12, 34);
        check.is("money", x.member(3, 3), 12);
        check.is("units", x.member(3, 4), 34);
        check.is("failed", x.member(3, 6), 0);
        deal(x, 0, 6, 0, 100, 31);
        deal(x, 0, 7, 0, 100, 2);
        check.is("risk", x.member(3, 0), 15);
        check.is("value", x.member(3, 1), 0);
        check.is("call", x.member(0, 2), 15);
    }

    private static void stakes() {
        check.part("48 stake");
        Openbook x = new Openbook();
        check.is("at first", x.stake(), 500);
        deal(x, 0, 0, 2, 140, 10);
        deal(x, 0, 4, 6, 100, 1);
        x.fail(0);
        x.closeOut();
        check.is("after a loss of 400", x.stake(), 300);
    }
}
