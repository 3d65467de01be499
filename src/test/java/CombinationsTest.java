/** The combinations A to F, each with the orders, prices and books on which it hangs. */
public final class CombinationsTest {
    private static final int NONE = Openbook.NONE;
    private static final Check check = new Check("CombinationsTest");

    private CombinationsTest() {
    }

    public static void main(String[] args) {
        for (int spread = 4; spread <= 5; spread++) {
            for (int side = 1; side >= -1; side -= 2) {
                check.part((side > 0 ? "to buy in " : "to sell in ") + spread);
                pairPrices(spread, side);
                pairTrades(spread, side);
                pairBands(spread, side);
                pairSelf(spread, side);
                pairOrders(spread, side);
            }
        }
        for (int side = 1; side >= -1; side -= 2) {
            check.part(side > 0 ? "E" : "F");
            chainPrices(side);
            chainTrades(side);
            chainBands(side);
            chainRange(side);
            chainSelf(side);
            chainOrders(side);
        }
        listed();
        check.end();
    }

    private static void tell(Openbook x, int account, int book, int price, int lots) {
        x.limit(account, book, price, lots, 0, 0);
    }

    // ---- of a spread and its two books

    /** With side 1 one buys the spread from who sells the near contract, to who buys the far one. */
    private static void pair(Openbook x, int spread, int side, int s, int p, int q) {
        pairOf(x, spread, side, s, p, q, 0, 2, 4);
    }

    private static void pairOf(Openbook x, int spread, int side, int s, int p, int q, int... who) {
        tell(x, who[1], spread - 4, p, -side * 3);
        tell(x, who[2], spread - 3, q, side * 3);
        tell(x, who[0], spread, s, side * 3);
    }

    private static void pairPrices(int spread, int side) {
        for (int gap = -3; gap <= 3; gap++) {
            for (int better = -1; better <= 1; better++) {
                Openbook x = new Openbook();
                pair(x, spread, side, gap + side * better, 100 + gap, 100);
                check.is("gap " + gap + " by " + better, x.trades(), better >= 0 ? 2 : 0);
            }
        }
    }

    private static void pairTrades(int spread, int side) {
        Openbook x = new Openbook();
        pair(x, spread, side, 3 * side, 101, 99 + side);
        check.is("near book", x.trade(0, 0), spread - 4);
        check.is("near buyer", x.trade(0, 1), side > 0 ? 0 : 2);
        check.is("near seller", x.trade(0, 2), side > 0 ? 2 : 0);
        check.is("near price", x.trade(0, 3), 101);
        check.is("far book", x.trade(1, 0), spread - 3);
        check.is("far buyer", x.trade(1, 1), side > 0 ? 4 : 0);
        check.is("far seller", x.trade(1, 2), side > 0 ? 0 : 4);
        check.is("far price", x.trade(1, 3), 99 + side);
        check.is("last of the near book", x.last(spread - 4, false), 101);
        check.is("last of the far book", x.last(spread - 3, false), 99 + side);
        check.is("last of the spread", x.last(spread, false), 0);
        check.is("all are gone", x.stateOf(0) + x.stateOf(1) + x.stateOf(2), 0);
    }

    private static void pairBands(int spread, int side) {
        for (int book = spread - 4; book <= spread - 3; book++) {
            for (int width = 1; width <= 3; width++) {
                Openbook x = new Openbook();
                x.setBand(book, width);
                boolean isNear = book == spread - 4;
                pair(x, spread, side, isNear ? 2 : -2, isNear ? 102 : 100, isNear ? 100 : 102);
                check.is("band " + width + " of " + book, x.trades(), width >= 2 ? 2 : 0);
                check.is("no AUCTION", x.endOf(book), NONE);
            }
        }
        Openbook x = new Openbook();
        x.setBand(spread, 1);
        pair(x, spread, side, 2, 101, 99);
        check.is("the band of the spread", x.trades(), 2);
    }

    private static void pairSelf(int spread, int side) {
        int[][] who = {{0, 2, 4}, {0, 1, 4}, {0, 2, 1}, {0, 2, 3}, {0, 0, 4}, {0, 2, 0}};
        // In which book, counted from the near one, a member would trade with itself.
        int[] barred = {-1, 0, 1, -1, 0, 1};
        for (int row = 0; row < who.length; row++) {
            for (int self = 0; self <= 2; self++) {
                for (int book = 0; book < 6; book++) {
                    Openbook x = new Openbook();
                    x.setRule(book, 0, 0, self);
                    pairOf(x, spread, side, 1, 101, 100, who[row]);
                    boolean isBarred = self > 0 && barred[row] >= 0 && book == spread - 4 + barred[row];
                    check.is("self " + self + " in " + book + ", accounts " + row, x.trades(), isBarred ? 0 : 2);
                }
            }
        }
    }

    /** Who is first at the best price: not by number, no peg, but a stop that became an order. */
    private static void pairOrders(int spread, int side) {
        int near = spread - 4;
        Openbook x = new Openbook();
        x.iceberg(2, near, 100, -side * 3, 1);
        tell(x, 4, near, 100, -side * 3);
        x.market(6, near, side);
        tell(x, 6, spread - 3, 98, side * 2);
        tell(x, 0, spread, 2, side * 2);
        check.is("by turns", x.trade(1, side > 0 ? 2 : 1), 4);
        Openbook y = new Openbook();
        tell(y, 0, near, 100, -side * 3);
        y.peg(2, near, side > 0 ? 90 : 110, -side * 3, 0);
        tell(y, 4, near, 100, -side * 3);
        y.cancel(0);
        check.is("the peg stays", y.priceOf(1), 100);
        tell(y, 6, spread - 3, 98, side * 2);
        tell(y, 0, spread, 2, side * 2);
        check.is("no peg", y.trade(0, side > 0 ? 2 : 1), 4);
        Openbook z = new Openbook();
        z.stop(2, near, 100, 100, -side * 3);
        check.is("was triggered", z.stateOf(0), Openbook.BOOKED);
        tell(z, 6, spread - 3, 98, side * 2);
        tell(z, 0, spread, 2, side * 2);
        check.is("a stop", z.trade(0, side > 0 ? 2 : 1), 2);
    }

    // ---- of both spreads

    private static void chain(Openbook x, int side, int s, int t, int p, int q) {
        chainOf(x, side, s, t, p, q, 0, 2, 4, 6);
    }

    private static void chainOf(Openbook x, int side, int s, int t, int p, int q, int... who) {
        tell(x, who[2], 0, p, -side * 3);
        tell(x, who[3], 2, q, side * 3);
        tell(x, who[1], 5, t, side * 3);
        tell(x, who[0], 4, s, side * 3);
    }

    private static void chainPrices(int side) {
        for (int gap = -3; gap <= 3; gap++) {
            for (int better = -1; better <= 1; better++) {
                for (int t = -2; t <= 2; t++) {
                    Openbook x = new Openbook();
                    chain(x, side, gap - t + side * better, t, 100 + gap, 100);
                    check.is("gap " + gap + " by " + better, x.trades(), better >= 0 ? 3 : 0);
                }
            }
        }
    }

    private static void chainTrades(int side) {
        Openbook x = new Openbook();
        chain(x, side, 2 + side, 4, 103, 97);
        int[] buyers = side > 0 ? new int[] {0, 2, 6} : new int[] {4, 0, 2};
        int[] sellers = side > 0 ? new int[] {4, 0, 2} : new int[] {0, 2, 6};
        int[] prices = {103, 101, 97};
        for (int trade = 0; trade < 3; trade++) {
            check.is("book", x.trade(trade, 0), trade);
            check.is("buyer", x.trade(trade, 1), buyers[trade]);
            check.is("seller", x.trade(trade, 2), sellers[trade]);
            check.is("price", x.trade(trade, 3), prices[trade]);
            check.is("last", x.last(trade, false), prices[trade]);
        }
        check.is("last of 4", x.last(4, false), 0);
        check.is("last of 5", x.last(5, false), 0);
    }

    private static void chainBands(int side) {
        for (int book = 0; book < 6; book++) {
            for (int width = 1; width <= 3; width++) {
                Openbook x = new Openbook();
                x.setBand(book, width);
                int p = book == 0 ? 102 : 100;
                int q = book == 2 ? 98 : 100;
                int t = book == 1 ? 2 : book == 2 ? 2 : 0;
                chain(x, side, p - q - t, t, p, q);
                check.is("band " + width + " of " + book, x.trades(), width >= 2 || book > 2 ? 3 : 0);
            }
        }
        Openbook x = new Openbook();
        x.setBand(4, 1);
        x.setBand(5, 1);
        chain(x, side, 3, 3, 103, 97);
        check.is("the bands of the spreads", x.trades(), 3);
    }

    private static void chainRange(int side) {
        int[][] of = {{2, 0, 3, 1, 3}, {3, -1, 3, 1, 0}, {0, 0, 9999, 9999, 3}, {-1, 1, 9999, 9999, 0}};
        for (int[] row : of) {
            Openbook x = new Openbook();
            chain(x, side, row[0], row[1], row[2], row[3]);
            check.is("1 at " + (row[1] + row[3]), x.trades(), row[4]);
        }
    }

    /** A member would trade with itself by the trade of the first and the third in 0, and so on. */
    private static void chainSelf(int side) {
        int[][] partners = {{0, 2}, {0, 1}, {1, 3}};
        for (int one = 0; one < 4; one++) {
            for (int other = one + 1; other < 4; other++) {
                for (int book = 0; book < 6; book++) {
                    Openbook x = new Openbook();
                    x.setRule(book, 0, 0, 1 + book % 2);
                    int[] who = {0, 2, 4, 6};
                    who[other] = who[one] + 1;
                    chainOf(x, side, 2, 4, 103, 97, who);
                    boolean isBarred = book < 3 && partners[book][0] == one && partners[book][1] == other;
                    check.is("self in " + book + " of " + one + " and " + other, x.trades(), isBarred ? 0 : 3);
                }
            }
        }
    }

    private static void chainOrders(int side) {
        Openbook x = new Openbook();
        x.iceberg(4, 0, 100, -side * 3, 1);
        tell(x, 6, 0, 100, -side * 3);
        x.market(2, 0, side);
        tell(x, 2, 2, 96, side * 2);
        tell(x, 3, 5, 2, side * 2);
        tell(x, 0, 4, 2, side * 2);
        check.is("by turns", x.trade(1, side > 0 ? 2 : 1), 6);
        check.is("trades", x.trades(), 4);
        Openbook y = new Openbook();
        chain(y, side, 2, 2, 100, 96);
        check.is("least", y.trade(1, 4), 3);
        for (int small = 0; small < 4; small++) {
            Openbook z = new Openbook();
            int[] lots = {3, 3, 3, 3};
            lots[small] = 1;
            tell(z, 4, 0, 100, -side * lots[2]);
            tell(z, 6, 2, 96, side * lots[3]);
            tell(z, 2, 5, 2, side * lots[1]);
            tell(z, 0, 4, 2, side * lots[0]);
            check.is("trades with one small", z.trades(), 3);
            for (int trade = 0; trade < 3; trade++) {
                check.is("n", z.trade(trade, 4), 1);
            }
        }
    }

    // ---- which one comes first

    private static void listed() {
        check.part("the first one of the list");
        // A and C at once, as an AUCTION of the book 1 ends; then A and E.
        Openbook x = new Openbook();
        x.auction(1, 1, 0, 0);
        tell(x, 0, 4, 0, 2);
        tell(x, 2, 0, 100, -2);
        tell(x, 4, 1, 100, 2);
        tell(x, 6, 5, 0, 2);
        tell(x, 3, 2, 100, 2);
        x.pass(1);
        check.is("A", x.trade(0, 0), 0);
        check.is("A, in 1", x.trade(1, 0), 1);
        check.is("of A alone", x.trades(), 2);
        // C and E at once: C, of those who buy 5 at 0, from who sells 1 at 100, to who buys 2 at 100.
        Openbook y = new Openbook();
        y.auction(5, 1, 0, 0);
        tell(y, 0, 4, 0, 2);
        tell(y, 2, 0, 100, -2);
        tell(y, 4, 1, 100, -2);
        tell(y, 6, 5, 0, 2);
        tell(y, 3, 2, 100, 2);
        y.pass(1);
        check.is("C", y.trade(0, 0), 1);
        check.is("C, in 2", y.trade(1, 0), 2);
        check.is("of C alone", y.trades(), 2);
    }
}
