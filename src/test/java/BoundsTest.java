/** Promises 2 to 47: each argument at its least and its most and just beyond, and which exception comes first. */
public final class BoundsTest {
    private static final int NONE = Openbook.NONE;
    private static final Check check = new Check("BoundsTest");

    private BoundsTest() {
    }

    public static void main(String[] args) {
        limit();
        market();
        iceberg();
        peg();
        stop();
        quote();
        cancel();
        rules();
        time();
        trades();
        allot();
        exercise();
        convert();
        margin();
        pay();
        defaults();
        orderAsked();
        booksAsked();
        accountsAsked();
        check.end();
    }

    private static void deal(Openbook x, int book, int buyer, int seller, int price, int lots) {
        x.limit(seller, book, price, -lots, 0, 0);
        x.limit(buyer, book, price, lots, 0, NONE);
    }

    /** Account 0 buys as many as told from account 2, with at most 50 in a trade. */
    private static void dealMany(Openbook x, int book, int buyer, int seller, int lots) {
        for (int left = lots; left > 0; left -= 50) {
            deal(x, book, buyer, seller, 100, Math.min(left, 50));
        }
    }

    private static Openbook fresh() {
        return new Openbook();
    }

    /** All accounts are refused as soon as they would have 3 or more of a contract. */
    private static Openbook refusing() {
        Openbook x = new Openbook();
        for (int account = 0; account < 8; account++) {
            for (int contract = 0; contract < 4; contract++) {
                x.setLimit(account, contract, 2);
            }
        }
        return x;
    }

    private static Openbook failed() {
        Openbook x = new Openbook();
        deal(x, 0, 0, 2, 200, 40);
        deal(x, 0, 4, 6, 100, 1);
        x.fail(0);
        return x;
    }

    private static Openbook full() {
        Openbook x = new Openbook();
        for (int order = 0; order < 40; order++) {
            x.limit(2 + order % 6, order % 4, 50, 1, 0, 0);
        }
        return x;
    }

    private static Openbook inAuction() {
        Openbook x = new Openbook();
        x.auction(0, 5, 0, 0);
        x.auction(4, 5, 0, 0);
        return x;
    }

    /** The bad starts of all calls that tell an order: refused, failed, and 40 that are live. */
    private static void orders(String name, Bounds.Form form, int[] base, Bounds.Argument... arguments) {
        new Bounds(check, name, BoundsTest::fresh, BoundsTest::refusing, form, base).hold(arguments);
        new Bounds(check, name, BoundsTest::fresh, BoundsTest::failed, form, base).hold(arguments);
        new Bounds(check, name, BoundsTest::inAuction, BoundsTest::full, form, base).hold(arguments);
    }

    private static void limit() {
        Bounds.Form form = (x, a) -> x.limit(a[0], a[1], a[2], a[3], a[4], a[5]);
        for (int lots : new int[] {5, -5, 50, -50}) {
            orders("2 limit", form, new int[] {0, 0, 100, lots, 0, 0}, Bounds.there(0, 0, 7), Bounds.there(1, 0, 5),
                    Bounds.within(2, 1, 9999), Bounds.within(3, -50, 50, 0));
            new Bounds(check, "2 limit, least and life", BoundsTest::fresh, BoundsTest::failed, form, 0, 0, 100, lots, 0, 0)
                    .hold(Bounds.within(4, 0, Math.abs(lots)), Bounds.within(5, 0, 9, NONE));
        }
        orders("2 limit, of a spread", form, new int[] {1, 4, 0, -5, 0, 0}, Bounds.within(2, -9999, 9999));
        orders("2 limit, of the other spread", form, new int[] {0, 5, 0, 5, 0, 0}, Bounds.within(2, -9999, 9999));
        new Bounds(check, "2 limit, for at once", BoundsTest::fresh, BoundsTest::inAuction, form, 0, 0, 100, 5, 0, NONE)
                .hold(Bounds.there(0, 0, 7), Bounds.within(3, -50, 50, 0), Bounds.within(4, 0, 5));
        new Bounds(check, "2 limit, with a least", BoundsTest::fresh, BoundsTest::inAuction, form, 0, 4, 0, 5, 1, 0)
                .hold(Bounds.there(0, 0, 7), Bounds.within(2, -9999, 9999), Bounds.within(5, 0, 9, NONE));
    }

    private static void market() {
        orders("3 market", (x, a) -> x.market(a[0], a[1], a[2]), new int[] {0, 0, 5}, Bounds.there(0, 0, 7),
                Bounds.there(1, 0, 5), Bounds.within(2, -50, 50, 0));
    }

    private static void iceberg() {
        Bounds.Form form = (x, a) -> x.iceberg(a[0], a[1], a[2], a[3], a[4]);
        for (int lots : new int[] {5, -5, 50, -50}) {
            orders("4 iceberg", form, new int[] {0, 0, 100, lots, 1}, Bounds.there(0, 0, 7), Bounds.there(1, 0, 5),
                    Bounds.within(2, 1, 9999), Bounds.within(3, -50, 50, 0), Bounds.within(4, 1, Math.abs(lots)));
        }
        orders("4 iceberg, of a spread", form, new int[] {0, 4, 0, 5, 1}, Bounds.within(2, -9999, 9999));
    }

    private static void peg() {
        Bounds.Form form = (x, a) -> x.peg(a[0], a[1], a[2], a[3], a[4]);
        orders("5 peg", form, new int[] {0, 0, 100, 5, 1}, Bounds.there(0, 0, 7), Bounds.there(1, 0, 5),
                Bounds.within(2, 1, 9999), Bounds.within(3, -50, 50, 0), Bounds.within(4, 0, 99));
        orders("5 peg, of a spread", form, new int[] {0, 5, 0, -5, 1}, Bounds.within(2, -9999, 9999));
    }

    private static void stop() {
        Bounds.Form form = (x, a) -> x.stop(a[0], a[1], a[2], a[3], a[4]);
        orders("6 stop", form, new int[] {0, 0, 100, 0, 5}, Bounds.there(0, 0, 7), Bounds.there(1, 0, 3),
                Bounds.within(2, 1, 9999), Bounds.within(3, 0, 9999), Bounds.within(4, -50, 50, 0));
    }

    private static Openbook thirtyNine() {
        Openbook x = full();
        x.cancel(0);
        return x;
    }

    private static void quote() {
        Bounds.Form form = (x, a) -> x.quote(a[0], a[1], a[2], a[3], a[4]);
        orders("7 quote", form, new int[] {0, 0, 98, 102, 5}, Bounds.there(0, 0, 7), Bounds.there(1, 0, 5),
                Bounds.within(2, 1, 101), Bounds.within(3, 99, 9999), Bounds.within(4, 1, 50));
        orders("7 quote, of a spread", form, new int[] {0, 4, -1, 1, 5}, Bounds.within(2, -9999, 0),
                Bounds.within(3, 0, 9999));
        new Bounds(check, "7 quote, with 39 live", BoundsTest::fresh, BoundsTest::thirtyNine, form, 0, 0, 9998, 9999, 3)
                .hold(Bounds.within(2, 1, 9998), Bounds.within(4, 1, 50));
        new Bounds(check, "7 quote, with 39 live", BoundsTest::fresh, BoundsTest::thirtyNine, form, 0, 4, -9999, -9998, 3)
                .hold(Bounds.within(2, -9999, -9999), Bounds.within(3, -9998, 9999));
    }

    private static Openbook withOrders() {
        Openbook x = new Openbook();
        x.limit(0, 0, 90, 1, 0, 0);
        x.stop(0, 0, 900, 0, 2);
        x.peg(0, 0, 90, 3, 0);
        return x;
    }

    private static Openbook frozen() {
        Openbook x = withOrders();
        x.auction(0, 1, 1, 0);
        return x;
    }

    private static void cancel() {
        for (int order = 0; order < 3; order++) {
            new Bounds(check, "8 cancel", BoundsTest::withOrders, BoundsTest::frozen, (x, a) -> x.cancel(a[0]), order)
                    .hold(Bounds.there(0, 0, 2));
        }
    }

    private static void rules() {
        new Bounds(check, "9 setRule", BoundsTest::fresh, null, (x, a) -> x.setRule(a[0], a[1], a[2], a[3]), 0, 1, 5, 1)
                .hold(Bounds.there(0, 0, 5), Bounds.within(1, 0, 2), Bounds.within(2, 0, 50), Bounds.within(3, 0, 2));
        new Bounds(check, "10 setBand", BoundsTest::fresh, null, (x, a) -> x.setBand(a[0], a[1]), 0, 5)
                .hold(Bounds.there(0, 0, 5), Bounds.within(1, 0, 9999));
        new Bounds(check, "11 setProtection", BoundsTest::fresh, null, (x, a) -> x.setProtection(a[0], a[1]), 0, 5)
                .hold(Bounds.there(0, 0, 7), Bounds.within(1, 0, 999));
        new Bounds(check, "12 setLimit", BoundsTest::fresh, null, (x, a) -> x.setLimit(a[0], a[1], a[2]), 0, 0, 5)
                .hold(Bounds.there(0, 0, 7), Bounds.there(1, 0, 3), Bounds.within(2, 0, 999));
    }

    private static void time() {
        Bounds.Form form = (x, a) -> x.auction(a[0], a[1], a[2], a[3]);
        new Bounds(check, "13 auction", BoundsTest::fresh, BoundsTest::inAuction, form, 0, 4, 0, 0)
                .hold(Bounds.there(0, 0, 5), Bounds.within(1, 1, 20), Bounds.within(2, 0, 4), Bounds.within(3, 0, 9));
        new Bounds(check, "13 auction, all frozen", BoundsTest::fresh, BoundsTest::inAuction, form, 4, 20, 20, 9)
                .hold(Bounds.within(1, 20, 20), Bounds.within(2, 0, 20));
        new Bounds(check, "13 auction, of one tick", BoundsTest::fresh, BoundsTest::inAuction, form, 0, 1, 1, 0)
                .hold(Bounds.within(1, 1, 20), Bounds.within(2, 0, 1));
        new Bounds(check, "14 pass", BoundsTest::fresh, null, (x, a) -> x.pass(a[0]), 5).hold(Bounds.within(0, 1, 20));
        new Bounds(check, "15 endDay", BoundsTest::fresh, BoundsTest::inAuction, (x, a) -> x.endDay()).hold();
    }

    /** 61 trades, of which the first one is not kept any more; the account 3 has bought, the account 4 sold. */
    private static Openbook traded() {
        Openbook x = new Openbook();
        for (int trade = 0; trade < 61; trade++) {
            deal(x, 0, 3, 4, 100, 1);
        }
        return x;
    }

    private static Openbook busted() {
        Openbook x = traded();
        x.bust(5);
        return x;
    }

    private static Openbook tradedInSpread() {
        Openbook x = new Openbook();
        deal(x, 4, 0, 2, 0, 1);
        return x;
    }

    private static Openbook bustedInSpread() {
        Openbook x = tradedInSpread();
        x.bust(0);
        return x;
    }

    private static void trades() {
        new Bounds(check, "16 bust", BoundsTest::traded, BoundsTest::busted, (x, a) -> x.bust(a[0]), 5)
                .hold(Bounds.there(0, 1, 60));
        new Bounds(check, "17 adjust", BoundsTest::traded, BoundsTest::busted, (x, a) -> x.adjust(a[0], a[1]), 5, 90)
                .hold(Bounds.there(0, 1, 60), Bounds.within(1, 1, 9999));
        new Bounds(check, "17 adjust, in a spread", BoundsTest::tradedInSpread, BoundsTest::bustedInSpread,
                (x, a) -> x.adjust(a[0], a[1]), 0, 90).hold(Bounds.there(0, 0, 0), Bounds.within(1, -9999, 9999));
        for (int side = 0; side < 2; side++) {
            boolean isBuyer = side == 0;
            Bounds.Form form = (x, a) -> x.giveUp(a[0], isBuyer, a[1]);
            new Bounds(check, "18 giveUp", BoundsTest::traded, BoundsTest::busted, form, 5, 7)
                    .hold(Bounds.there(0, 1, 60), Bounds.there(1, 0, 7));
            Openbook x = traded();
            check.place("not kept, ahead of its own side", x, () -> x.giveUp(0, isBuyer, 3));
            check.state("the buyer", x, () -> x.giveUp(5, isBuyer, 3));
            check.state("the seller", x, () -> x.giveUp(5, isBuyer, 4));
        }
        new Bounds(check, "43 trade", BoundsTest::traded, null, (x, a) -> x.trade(a[0], a[1]), 5, 3)
                .hold(Bounds.there(0, 1, 60), Bounds.within(1, 0, 5));
    }

    /** The accounts 0 and 2 have bought 999 of contract 0, in trades that are kept; 1 and 3 have sold as many. */
    private static Openbook great() {
        Openbook x = new Openbook();
        dealMany(x, 0, 0, 1, 999);
        dealMany(x, 0, 2, 3, 999);
        return x;
    }

    private static void allot() {
        Bounds.Form form = (x, a) -> x.allot(a[0], a[1], a[2], a[3]);
        new Bounds(check, "19 allot", BoundsTest::great, BoundsTest::fresh, form, 2, 7, 0, 5)
                .hold(Bounds.there(1, 0, 7), Bounds.within(3, 1, 999));
        new Bounds(check, "19 allot, of one below 0", BoundsTest::great, BoundsTest::fresh, form, 3, 4, 0, -5)
                .hold(Bounds.there(1, 0, 7), Bounds.within(3, -999, -1));
        Openbook x = great();
        for (int bad : new int[] {-1, 8, NONE, Integer.MAX_VALUE, Integer.MIN_VALUE}) {
            check.place("account", x, () -> x.allot(bad, 1, 0, 1000));
            check.place("both", x, () -> x.allot(bad, bad, 0, 0));
            check.place("to", x, () -> x.allot(0, bad, 0, 1000));
        }
        for (int bad : new int[] {-1, 4, NONE, Integer.MAX_VALUE, Integer.MIN_VALUE}) {
            check.place("contract", x, () -> x.allot(0, 0, bad, 0));
        }
        for (int same = 0; same < 8; same++) {
            int account = same;
            check.range("both are the same", x, () -> x.allot(account, account, 0, 1));
            check.range("both are the same, ahead of its state", x, () -> x.allot(account, account, 3, -9));
        }
        for (int bad : new int[] {0, 1000, -1000, Integer.MAX_VALUE, Integer.MIN_VALUE}) {
            check.range("quantity", x, () -> x.allot(0, 1, 0, bad));
            check.range("quantity, ahead of its state", x, () -> x.allot(0, 1, 3, bad));
        }
        check.state("999 of 0", x, () -> x.allot(0, 1, 3, 999));
        check.state("999 short of 0", x, () -> x.allot(0, 1, 3, -999));
    }

    private static Openbook ninetyNineRights() {
        Openbook x = new Openbook();
        dealMany(x, 3, 0, 2, 99);
        return x;
    }

    private static void exercise() {
        Bounds.Form form = (x, a) -> x.exercise(a[0], a[1], a[2]);
        new Bounds(check, "20 exercise", BoundsTest::ninetyNineRights, BoundsTest::fresh, form, 0, 5, 5)
                .hold(Bounds.within(1, 1, 99), Bounds.within(2, 0, 7874));
        Openbook x = ninetyNineRights();
        for (int account : new int[] {-1, 9, NONE, Integer.MAX_VALUE, Integer.MIN_VALUE}) {
            check.place("account", x, () -> x.exercise(account, 0, -1));
            check.place("account", x, () -> x.exercise(account, 1, 0));
        }
        for (int account = 1; account <= 8; account++) {
            int without = account;
            check.state("without one", x, () -> x.exercise(without, 1, 0));
            check.range("ahead of its state", x, () -> x.exercise(without, 0, 0));
            check.range("ahead of its state", x, () -> x.exercise(without, 1, 7875));
        }
    }

    /** Account 0 has 1000001 of contract 0, account 2 as many less than 0. */
    private static Openbook tooGreat() {
        Openbook x = new Openbook();
        for (int time = 0; time < 4; time++) {
            deal(x, 0, 0, 2, 100, 50);
        }
        for (int factor : new int[] {5, 5, 5, 5, 8}) {
            x.convert(0, factor, 1);
        }
        deal(x, 0, 4, 6, 100, 1);
        x.allot(4, 0, 0, 1);
        return x;
    }

    private static void convert() {
        Bounds.Form form = (x, a) -> x.convert(a[0], a[1], a[2]);
        new Bounds(check, "21 convert", BoundsTest::fresh, BoundsTest::tooGreat, form, 0, 1, 1)
                .hold(Bounds.there(0, 0, 2), Bounds.within(1, 1, 9), Bounds.within(2, 1, 9));
    }

    private static void margin() {
        new Bounds(check, "22 setMove", BoundsTest::fresh, null, (x, a) -> x.setMove(a[0], a[1], a[2]), 0, 0, 5)
                .hold(Bounds.there(0, 0, 3), Bounds.there(1, 0, 3), Bounds.within(2, -99, 99));
        new Bounds(check, "23 setHaircut", BoundsTest::fresh, null, (x, a) -> x.setHaircut(a[0]), 5)
                .hold(Bounds.within(0, 0, 100));
        new Bounds(check, "25 setFund", BoundsTest::fresh, BoundsTest::failed, (x, a) -> x.setFund(a[0], a[1]), 0, 5)
                .hold(Bounds.there(0, 0, 3), Bounds.within(1, 0, 9999));
    }

    private static Openbook rich() {
        Openbook x = new Openbook();
        for (int member = 0; member < 4; member++) {
            x.pay(member, 9999, 99);
        }
        return x;
    }

    private static void pay() {
        Bounds.Form form = (x, a) -> x.pay(a[0], a[1], a[2]);
        new Bounds(check, "24 pay", BoundsTest::rich, BoundsTest::failed, form, 0, 5, 5)
                .hold(Bounds.there(0, 0, 3), Bounds.within(1, -9999, 9999), Bounds.within(2, -99, 99));
        new Bounds(check, "24 pay, less than it has", BoundsTest::rich, BoundsTest::fresh, form, 0, -1, -1)
                .hold(Bounds.there(0, 0, 3), Bounds.within(1, -9999, 9999), Bounds.within(2, -99, 99));
    }

    private static Openbook allCalled() {
        Openbook x = new Openbook();
        for (int member = 0; member < 4; member++) {
            deal(x, 3 - member, 2 * member, (2 * member + 2) % 8, 100, 40);
        }
        return x;
    }

    private static void defaults() {
        new Bounds(check, "26 fail", BoundsTest::allCalled, BoundsTest::fresh, (x, a) -> x.fail(a[0]), 0)
                .hold(Bounds.there(0, 0, 3));
        new Bounds(check, "27 bid", BoundsTest::failed, BoundsTest::fresh, (x, a) -> x.bid(a[0], a[1]), 1, 5)
                .hold(Bounds.within(1, -9999, 9999));
        Openbook x = failed();
        for (int member : new int[] {-1, 4, NONE, Integer.MAX_VALUE, Integer.MIN_VALUE}) {
            check.place("member", x, () -> x.bid(member, 0));
            check.place("member, ahead of the amount", x, () -> x.bid(member, 10000));
        }
        check.state("it has failed", x, () -> x.bid(0, 0));
        for (int member = 1; member < 4; member++) {
            check.is("members that bid", x.bid(member, 0), member);
        }
        new Bounds(check, "28 closeOut", BoundsTest::failed, BoundsTest::fresh, (y, a) -> y.closeOut()).hold();
    }

    private static void orderAsked() {
        new Bounds(check, "37 rest", BoundsTest::withOrders, null, (x, a) -> x.rest(a[0]), 0).hold(Bounds.there(0, 0, 2));
        new Bounds(check, "38 priceOf", BoundsTest::withOrders, null, (x, a) -> x.priceOf(a[0]), 0)
                .hold(Bounds.there(0, 0, 2));
        Openbook x = withOrders();
        x.cancel(1);
        for (int order : new int[] {1, 3, -1, NONE, Integer.MAX_VALUE, Integer.MIN_VALUE}) {
            check.is("36 stateOf", x.stateOf(order), Openbook.GONE);
            check.place("cancelled", x, () -> x.rest(order));
            check.place("cancelled", x, () -> x.priceOf(order));
            check.place("cancelled", x, () -> x.cancel(order));
        }
    }

    private static void booksAsked() {
        for (int side = 0; side < 2; side++) {
            boolean which = side == 0;
            Bounds.Argument book = Bounds.there(0, 0, 5);
            new Bounds(check, "33 bestByLog", BoundsTest::fresh, null, (x, a) -> x.bestByLog(a[0], which), 0).hold(book);
            new Bounds(check, "34 best", BoundsTest::fresh, null, (x, a) -> x.best(a[0], which), 0).hold(book);
            for (int price : new int[] {100, NONE, Integer.MAX_VALUE, Integer.MIN_VALUE}) {
                new Bounds(check, "35 shown", BoundsTest::fresh, null, (x, a) -> x.shown(a[0], which, price), 0).hold(book);
            }
            new Bounds(check, "39 last", BoundsTest::fresh, null, (x, a) -> x.last(a[0], which), 0).hold(book);
            new Bounds(check, "40 endOf", BoundsTest::inAuction, null, (x, a) -> x.endOf(a[0]), 0).hold(book);
            new Bounds(check, "41 indicated", BoundsTest::inAuction, null, (x, a) -> x.indicated(a[0], which), 0).hold(book);
        }
    }

    private static void accountsAsked() {
        new Bounds(check, "32 positionByLog", BoundsTest::fresh, null, (x, a) -> x.positionByLog(a[0], a[1]), 0, 0)
                .hold(Bounds.there(0, 0, 8), Bounds.there(1, 0, 3));
        new Bounds(check, "44 position", BoundsTest::fresh, null, (x, a) -> x.position(a[0], a[1]), 0, 0)
                .hold(Bounds.there(0, 0, 8), Bounds.there(1, 0, 3));
        new Bounds(check, "45 cash", BoundsTest::fresh, null, (x, a) -> x.cash(a[0]), 0).hold(Bounds.there(0, 0, 8));
        new Bounds(check, "46 quoted", BoundsTest::fresh, null, (x, a) -> x.quoted(a[0]), 0).hold(Bounds.there(0, 0, 7));
        new Bounds(check, "47 member", BoundsTest::failed, null, (x, a) -> x.member(a[0], a[1]), 0, 0)
                .hold(Bounds.there(0, 0, 3), Bounds.within(1, 0, 6));
    }
}
