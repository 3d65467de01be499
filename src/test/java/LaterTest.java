/** Promises 16 to 21: what is done with trades and positions later. */
public final class LaterTest {
    private static final int NONE = Openbook.NONE;
    private static final Check check = new Check("LaterTest");

    private LaterTest() {
    }

    public static void main(String[] args) {
        busts();
        bustedStops();
        bustThrows();
        keptTrades();
        adjusts();
        adjustTriggers();
        givesUp();
        allots();
        allotAverages();
        exercises();
        exerciseByLot();
        exerciseOfHouse();
        converts();
        convertsCash();
        convertsPrices();
        convertForgets();
        convertThrows();
        check.end();
    }

    private static void deal(Openbook x, int book, int buyer, int seller, int price, int lots) {
        x.limit(seller, book, price, -lots, 0, 0);
        x.limit(buyer, book, price, lots, 0, NONE);
    }

    private static void busts() {
        check.part("16 bust");
        Openbook x = new Openbook();
        deal(x, 0, 0, 2, 105, 3);
        deal(x, 0, 0, 2, 107, 2);
        deal(x, 4, 4, 6, -5, 4);
        check.is("the last price then", x.bust(1), 105);
        check.is("last", x.last(0, false), 105);
        check.is("busted", x.trade(1, 5), 1);
        check.is("position", x.position(0, 0), 3);
        check.is("position", x.position(2, 0), -3);
        check.is("cash", x.cash(0), -315);
        check.is("cash", x.cash(2), 315);
        check.is("of a spread", x.bust(2), 0);
        check.is("position", x.position(4, 0), 0);
        check.is("position", x.position(4, 1), 0);
        check.is("cash", x.cash(6), 0);
        x.limit(7, 0, 1, 1, 0, 0);
        x.endDay();
        deal(x, 0, 0, 2, 109, 1);
        check.is("not the latest one", x.bust(0), 109);
        check.is("the reference without one", x.bust(3), 105);
        check.is("trades", x.trades(), 4);
        check.is("cash", x.cash(0), 0);
    }

    private static void bustedStops() {
        check.part("16 bust: stops wait again");
        Openbook x = new Openbook();
        x.stop(4, 0, 105, 104, 2);
        x.stop(5, 0, 105, 103, 2);
        x.stop(6, 0, 108, 104, 2);
        deal(x, 0, 0, 2, 105, 3);
        check.is("triggered", x.stateOf(0), Openbook.BOOKED);
        x.limit(2, 0, 104, -1, 0, NONE);
        check.is("traded", x.rest(0), 1);
        check.is("the last price now", x.bust(0), 104);
        check.is("has traded", x.stateOf(0), Openbook.BOOKED);
        check.is("waits again", x.stateOf(1), Openbook.WAITING);
        check.is("no price", x.priceOf(1), NONE);
        check.is("waits still", x.stateOf(2), Openbook.WAITING);
        deal(x, 0, 0, 2, 105, 1);
        check.is("triggered again", x.priceOf(1), 103);
        deal(x, 0, 0, 2, 106, 1);
        check.is("by a trade that is not the latest any more", x.bust(2), 106);
        check.is("is triggered at once by what is last", x.stateOf(1), Openbook.BOOKED);
        check.is("by the latest one then", x.bust(3), 104);
        check.is("waits again", x.stateOf(1), Openbook.WAITING);
        Openbook y = new Openbook();
        y.limit(0, 0, 105, -1, 0, 0);
        y.stop(4, 0, 100, 99, 2);
        check.is("triggered without a trade", y.stateOf(1), Openbook.BOOKED);
        y.market(2, 0, 1);
        y.bust(0);
        check.is("is not triggered by this one", y.stateOf(1), Openbook.BOOKED);
        Openbook z = new Openbook();
        z.stop(4, 0, 105, 104, 2);
        deal(z, 0, 0, 2, 105, 3);
        z.auction(0, 3, 0, 0);
        z.bust(0);
        check.is("in an AUCTION, too", z.stateOf(0), Openbook.WAITING);
        check.is("not in another book", z.cancel(0), 2);
    }

    private static void bustThrows() {
        check.part("16 bust: wrong inputs");
        Openbook x = new Openbook();
        check.place("none yet", x, () -> x.bust(0));
        deal(x, 0, 0, 2, 105, 3);
        x.bust(0);
        check.state("busted", x, () -> x.bust(0));
        for (int trade : new int[] {-1, 1, Integer.MAX_VALUE, Integer.MIN_VALUE}) {
            check.place("trade", x, () -> x.bust(trade));
            check.place("trade", x, () -> x.adjust(trade, 0));
            check.place("trade", x, () -> x.giveUp(trade, true, 4));
            check.place("trade", x, () -> x.trade(trade, 9));
        }
    }

    private static void keptTrades() {
        check.part("16 bust: the latest 60 trades are kept");
        Openbook x = new Openbook();
        deal(x, 1, 4, 6, 95, 1);
        for (int trade = 1; trade < 60; trade++) {
            deal(x, 0, 0, 2, 100 + trade, 1);
        }
        check.is("the oldest", x.trade(0, 3), 95);
        deal(x, 0, 0, 2, 161, 1);
        check.place("not kept any more", x, () -> x.trade(0, 3));
        check.place("not kept any more", x, () -> x.bust(0));
        check.is("the oldest", x.trade(1, 3), 101);
        check.is("the latest", x.trade(60, 3), 161);
        check.state("no average price without a kept trade", x, () -> x.allot(4, 0, 1, 1));
        check.is("the average of those kept", x.allot(0, 4, 0, 1), (59 * 100 + 59 * 60 / 2 + 161) / 60);
        deal(x, 1, 4, 6, 97, 1);
        check.is("the reference without a kept one", x.bust(61), 100);
    }

    private static void adjusts() {
        check.part("17 adjust");
        Openbook x = new Openbook();
        deal(x, 0, 0, 2, 105, 3);
        deal(x, 0, 0, 2, 107, 2);
        check.is("the price before", x.adjust(0, 101), 105);
        check.is("price", x.trade(0, 3), 101);
        check.is("cash", x.cash(0), -303 - 214);
        check.is("cash", x.cash(2), 303 + 214);
        check.is("not the latest", x.last(0, false), 107);
        check.is("the price before", x.adjust(1, 9999), 107);
        check.is("the latest", x.last(0, false), 9999);
        check.is("the price before", x.adjust(1, 1), 9999);
        x.bust(1);
        check.is("the latest that was not busted", x.adjust(0, 90), 101);
        check.is("last", x.last(0, false), 90);
        deal(x, 5, 0, 2, 4, 1);
        check.is("of a spread", x.adjust(2, -9999), 4);
        check.is("cash", x.cash(0), -270 + 9999);
        check.range("price", x, () -> x.adjust(0, 0));
        check.range("price", x, () -> x.adjust(0, 10000));
        check.range("price of a spread", x, () -> x.adjust(2, -10000));
        check.range("range ahead of state", x, () -> x.adjust(1, 0));
        check.state("busted", x, () -> x.adjust(1, 100));
    }

    private static void adjustTriggers() {
        check.part("17 adjust: WORK");
        Openbook x = new Openbook();
        x.limit(6, 0, 120, -5, 0, 0);
        deal(x, 0, 0, 2, 105, 3);
        x.stop(4, 0, 110, 0, 2);
        check.is("waits", x.stateOf(3), Openbook.WAITING);
        x.adjust(0, 110);
        check.is("triggers", x.position(4, 0), 2);
    }

    private static void givesUp() {
        check.part("18 giveUp");
        Openbook x = new Openbook();
        deal(x, 0, 0, 2, 105, 3);
        deal(x, 4, 0, 2, -2, 3);
        check.is("the account before", x.giveUp(0, true, 4), 0);
        check.is("buyer", x.trade(0, 1), 4);
        check.is("position", x.position(4, 0), 3);
        check.is("cash", x.cash(4), -315);
        check.is("position", x.position(0, 0), 3);
        check.is("cash", x.cash(0), 6);
        check.is("the account before", x.giveUp(1, false, 7), 2);
        check.is("seller", x.trade(1, 2), 7);
        check.is("position", x.position(7, 0), -3);
        check.is("position", x.position(7, 1), 3);
        check.is("cash", x.cash(7), -6);
        check.is("position", x.position(2, 0), -3);
        check.is("position", x.position(2, 1), 0);
        x.setLimit(5, 0, 0);
        check.is("limits do not count", x.giveUp(0, false, 5), 2);
        x.bust(0);
        check.is("is in its place", x.position(5, 0), 0);
        check.is("cash", x.cash(5), 0);
        check.is("cash", x.cash(4), 0);
        for (int to : new int[] {-1, 8, Integer.MAX_VALUE}) {
            check.place("to", x, () -> x.giveUp(1, true, to));
            check.place("to, ahead of state", x, () -> x.giveUp(0, true, to));
        }
        check.state("busted", x, () -> x.giveUp(0, true, 3));
        check.state("on its own side", x, () -> x.giveUp(1, true, 0));
        check.state("on the other side", x, () -> x.giveUp(1, true, 7));
        check.is("the other member's account", x.giveUp(1, true, 6), 0);
    }

    private static void allots() {
        check.part("19 allot");
        Openbook x = new Openbook();
        deal(x, 0, 0, 2, 105, 3);
        deal(x, 0, 0, 4, 100, 2);
        check.is("the average price", x.allot(0, 6, 0, 4), 103);
        check.is("position", x.position(0, 0), 1);
        check.is("position", x.position(6, 0), 4);
        check.is("cash", x.cash(0), -515 + 412);
        check.is("cash", x.cash(6), -412);
        check.is("of one below 0", x.allot(2, 7, 0, -3), 105);
        check.is("position", x.position(7, 0), -3);
        check.is("cash", x.cash(7), 315);
        check.is("cash", x.cash(2), 0);
        check.is("trades stay", x.trade(0, 2), 2);
        check.place("account", x, () -> x.allot(8, 0, 0, 0));
        check.place("to", x, () -> x.allot(0, 8, 0, 1));
        check.place("contract", x, () -> x.allot(0, 1, 4, 1));
        check.range("same", x, () -> x.allot(0, 0, 0, 1));
        check.range("quantity", x, () -> x.allot(0, 1, 0, 0));
        check.range("quantity", x, () -> x.allot(0, 1, 0, 1000));
        check.range("quantity", x, () -> x.allot(0, 1, 0, -1000));
        check.range("quantity", x, () -> x.allot(0, 1, 0, Integer.MIN_VALUE));
        check.state("not as great", x, () -> x.allot(0, 1, 0, 2));
        check.state("not on this side", x, () -> x.allot(0, 1, 0, -1));
        check.state("not on this side", x, () -> x.allot(7, 1, 0, 1));
        check.state("no average price", x, () -> x.allot(6, 1, 0, 1));
        check.is("all of it", x.allot(0, 1, 0, 1), 103);
    }

    private static void allotAverages() {
        check.part("19 allot: the average price");
        Openbook x = new Openbook();
        deal(x, 1, 0, 2, 105, 3);
        deal(x, 1, 0, 2, 90, 1);
        deal(x, 1, 2, 0, 200, 1);
        deal(x, 5, 0, 2, 30, 1);
        check.is("of its side, in the book of this contract", x.allot(0, 4, 1, 1), (315 + 90) / 4);
        x.bust(1);
        check.is("not of busted ones", x.allot(0, 4, 1, 1), 105);
        x.adjust(0, 111);
        check.is("at its price now", x.allot(0, 4, 1, 1), 111);
        x.giveUp(0, true, 6);
        check.state("not of those given up", x, () -> x.allot(0, 4, 1, 1));
        check.is("sold", x.position(2, 1), -3 + 1 - 1);
        check.is("average of what it sold", x.allot(2, 4, 1, -2), 111);
        Openbook y = new Openbook();
        deal(y, 0, 0, 2, 100, 1);
        deal(y, 0, 0, 2, 101, 1);
        check.is("rounded down", y.allot(0, 4, 0, 1), 100);
    }

    private static void exercises() {
        check.part("20 exercise");
        Openbook x = new Openbook();
        deal(x, 3, 0, 2, 5, 4);
        check.is("assigned", x.exercise(0, 3, 0), 2);
        check.is("right", x.position(0, 3), 1);
        check.is("contract 0", x.position(0, 0), 3);
        check.is("cash", x.cash(0), -20 - 300);
        check.is("one less short for each", x.position(2, 3), -1);
        check.is("sells contract 0", x.position(2, 0), -3);
        check.is("gets 100 each", x.cash(2), 20 + 300);
        check.is("no trade", x.trades(), 1);
        for (int account : new int[] {-1, 9, Integer.MIN_VALUE}) {
            check.place("account", x, () -> x.exercise(account, 0, -1));
        }
        check.range("quantity", x, () -> x.exercise(0, 0, 0));
        check.range("quantity", x, () -> x.exercise(0, 100, 0));
        check.range("draw", x, () -> x.exercise(0, 1, -1));
        check.range("draw", x, () -> x.exercise(0, 1, 7875));
        check.state("less", x, () -> x.exercise(0, 2, 0));
        check.state("short", x, () -> x.exercise(2, 1, 0));
        check.state("the HOUSE", x, () -> x.exercise(8, 1, 0));
        check.is("the last one", x.exercise(0, 1, 7874), 2);
    }

    private static void exerciseByLot() {
        check.part("20 exercise: by lot");
        Openbook x = new Openbook();
        int[] shorts = {0, 0, 7, 0, 2, 0, 0, 5};
        for (int account = 1; account < 8; account++) {
            if (shorts[account] > 0) {
                deal(x, 3, 0, account, 5, shorts[account]);
            }
        }
        int draw = 1234;
        int number = draw;
        int due = -1;
        for (int done = 0; done < 11; done++) {
            number = (421 * number + 1663) % 7875;
            int place = number % (14 - done);
            due = -1;
            while (place >= 0) {
                due++;
                place -= shorts[due];
            }
            shorts[due]--;
        }
        check.is("assigned last", x.exercise(0, 11, draw), due);
        for (int account = 1; account < 8; account++) {
            check.is("short yet", x.position(account, 3), -shorts[account]);
        }
        check.is("right", x.position(0, 3), 3);
    }

    private static void exerciseOfHouse() {
        check.part("20 exercise: the HOUSE");
        Openbook x = new Openbook();
        deal(x, 3, 2, 4, 90, 40);
        x.setMove(0, 3, -99);
        x.fail(1);
        x.closeOut();
        check.is("has the position", x.position(8, 3), 40);
        check.is("is an account", x.exercise(8, 2, 1), 4);
        check.is("right", x.position(8, 3), 38);
        check.is("contract 0", x.position(8, 0), 2);
        check.state("less", x, () -> x.exercise(8, 39, 1));
    }

    private static void converts() {
        check.part("21 convert");
        Openbook x = new Openbook();
        deal(x, 1, 0, 2, 100, 5);
        deal(x, 1, 1, 2, 100, 2);
        deal(x, 1, 3, 4, 100, 9);
        deal(x, 0, 0, 2, 100, 5);
        x.limit(6, 1, 90, 1, 0, 0);
        x.stop(6, 1, 190, 0, 1);
        x.limit(6, 4, -90, 1, 0, 0);
        x.peg(6, 5, -90, 1, 0);
        x.limit(6, 0, 90, 1, 0, 0);
        x.limit(6, 2, 90, 1, 0, 0);
        check.is("orders in books with it are gone", x.convert(1, 3, 2), 4);
        check.is("not in others", x.best(0, true), 90);
        check.is("not in others", x.best(2, true), 90);
        check.is("position", x.position(0, 1), 7);
        check.is("position", x.position(1, 1), 3);
        check.is("towards 0", x.position(2, 1), -10);
        check.is("position", x.position(3, 1), 13);
        check.is("towards 0", x.position(4, 1), -13);
        check.is("the HOUSE makes the sum 0", x.position(8, 1), 0);
        check.is("of this contract alone", x.position(0, 0), 5);
        check.is("last", x.last(1, false), 66);
        check.is("reference", x.last(1, true), 66);
        check.is("of a spread", x.last(4, false), 0);
        check.is("cash for a half", x.cash(0), -1000 + 33);
        check.is("none for a whole", x.cash(1), -200);
        check.is("cash for a half below 0", x.cash(2), 700 + 500 - 33);
        check.is("paid by the HOUSE", x.cash(8), -33 + 33 - 33 + 33);
        Openbook y = new Openbook();
        deal(y, 2, 0, 2, 100, 3);
        deal(y, 2, 4, 2, 100, 3);
        y.convert(2, 1, 2);
        check.is("the HOUSE has what is left", y.position(8, 2), 1);
        y.convert(2, 2, 1);
        check.is("the HOUSE is not converted", y.position(8, 2), 2);
    }

    private static void convertsCash() {
        check.part("21 convert: rounded down also below 0");
        Openbook x = new Openbook();
        deal(x, 0, 0, 2, 100, 1);
        deal(x, 0, 4, 2, 100, 1);
        x.convert(0, 1, 3);
        // 1 of 3, at 300, divided by 3: 100 each; 2 short of 3: -200.
        check.is("last", x.last(0, false), 300);
        check.is("cash", x.cash(0), -100 + 100);
        check.is("cash", x.cash(2), 200 - 200);
        check.is("HOUSE", x.cash(8), -100 - 100 + 200);
        Openbook y = new Openbook();
        deal(y, 0, 0, 2, 5, 1);
        y.convert(0, 4, 3);
        // 4 - 3 is 1 left, at 3, divided by 3: 1; for the short one -1.
        check.is("last", y.last(0, false), 3);
        check.is("cash", y.cash(0), -5 + 1);
        Openbook z = new Openbook();
        deal(z, 0, 0, 2, 5, 1);
        z.convert(0, 5, 3);
        // 5 - 3 is 2 left, at 3, divided by 3: 2.
        check.is("cash", z.cash(0), -5 + 2);
        Openbook v = new Openbook();
        deal(v, 0, 0, 2, 5, 1);
        v.convert(0, 3, 2);
        // 3 - 2 is 1 left, at 3, divided by 2: 1, and for the short one -2.
        check.is("down", v.cash(0), -5 + 1);
        check.is("down below 0", v.cash(2), 5 - 2);
        check.is("HOUSE", v.cash(8), 1);
    }

    private static void convertsPrices() {
        check.part("21 convert: prices");
        Openbook x = new Openbook();
        deal(x, 0, 0, 2, 2, 1);
        x.convert(0, 9, 1);
        check.is("1 at least", x.last(0, false), 1);
        check.is("the reference, too", x.last(0, true), 11);
        Openbook y = new Openbook();
        deal(y, 0, 0, 2, 5000, 1);
        y.convert(0, 1, 9);
        check.is("9999 at most", y.last(0, false), 9999);
        check.is("the reference, too", y.last(0, true), 900);
        check.is("position", y.position(0, 0), 0);
        check.is("paid at the new last price", y.cash(0), -5000 + 9999 / 9);
    }

    private static void convertForgets() {
        check.part("21 convert: trades are not kept");
        Openbook x = new Openbook();
        deal(x, 0, 0, 2, 100, 1);
        deal(x, 1, 0, 2, 101, 1);
        deal(x, 4, 0, 2, 3, 1);
        deal(x, 5, 0, 2, 3, 1);
        deal(x, 2, 0, 2, 102, 1);
        deal(x, 3, 0, 2, 103, 1);
        x.convert(0, 1, 1);
        check.place("book 0", x, () -> x.trade(0, 0));
        check.is("book 1", x.trade(1, 3), 101);
        check.place("book 4", x, () -> x.bust(2));
        check.is("book 5", x.trade(3, 3), 3);
        check.is("book 3", x.trade(5, 3), 103);
        check.state("no average price", x, () -> x.allot(0, 4, 0, 1));
        x.convert(2, 1, 1);
        check.place("book 5", x, () -> x.trade(3, 3));
        check.place("book 2", x, () -> x.trade(4, 3));
        check.is("number of trades", x.trades(), 6);
        deal(x, 0, 0, 2, 99, 1);
        check.is("later ones are", x.bust(6), 100);
    }

    private static void convertThrows() {
        check.part("21 convert: wrong inputs");
        Openbook x = new Openbook();
        deal(x, 0, 0, 2, 100, 50);
        for (int contract : new int[] {-1, 3, 4, Integer.MIN_VALUE}) {
            check.place("contract", x, () -> x.convert(contract, 0, 0));
        }
        for (int bad : new int[] {0, -1, 10, Integer.MIN_VALUE}) {
            check.range("numerator", x, () -> x.convert(0, bad, 1));
            check.range("denominator", x, () -> x.convert(0, 1, bad));
        }
        for (int time = 0; time < 4; time++) {
            x.convert(0, 9, 1);
        }
        check.is("position", x.position(0, 0), 50 * 6561);
        check.is("up to 1000000", x.convert(0, 3, 1), 0);
        check.state("above", x, () -> x.convert(0, 2, 1));
        check.state("below", x, () -> x.convert(0, 9, 8));
        check.is("less", x.convert(0, 1, 9), 0);
        Openbook y = new Openbook();
        for (int time = 0; time < 4; time++) {
            y.limit(2, 0, 100, -50, 0, 0);
            y.limit(0, 0, 100, 50, 0, NONE);
        }
        for (int factor : new int[] {5, 5, 5, 5, 8}) {
            y.convert(0, factor, 1);
        }
        check.is("1000000 itself", y.position(0, 0), 1000000);
        check.is("and below 0", y.position(2, 0), -1000000);
        check.state("more", y, () -> y.convert(0, 9, 8));
        check.is("no more", y.convert(0, 1, 1), 0);
    }
}
