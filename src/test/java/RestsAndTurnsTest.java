/** Where what is shown is not the rest, turns are not the numbers, ticks not the days, and the last price not the reference. */
public final class RestsAndTurnsTest {
    private static final int NONE = Openbook.NONE;
    private static final Check check = new Check("RestsAndTurnsTest");

    private RestsAndTurnsTest() {
    }

    public static void main(String[] args) {
        icebergsInAuctions();
        icebergsByShares();
        icebergsBySize();
        whatAnAccountCouldComeTo();
        livesAreDays();
        nearestToTheReference();
        turnsAreNotNumbers();
        stopsByNumber();
        bestBesidesAnyPrice();
        givenUpToEitherSide();
        check.end();
    }

    private static void lots(Openbook x, int from, int... due) {
        check.is("trades", x.trades(), from + due.length);
        for (int k = 0; k < due.length && from + k < x.trades(); k++) {
            check.is("lots of " + (from + k), x.trade(from + k, 4), due[k]);
        }
    }

    private static void icebergsInAuctions() {
        for (int side = 1; side >= -1; side -= 2) {
            check.part("14 pass: icebergs with their whole rests, side " + side);
            Openbook x = new Openbook();
            x.auction(0, 1, 0, 0);
            x.iceberg(0, 0, 100, side * 9, 2);
            x.limit(2, 0, 100, side * 3, 0, 0);
            x.limit(4, 0, 100, -side * 7, 0, 0);
            check.is("shown", x.shown(0, side > 0, 100), 5);
            check.is("quantity", x.indicated(0, true), 7);
            x.pass(1);
            lots(x, 0, 7);
            check.is("shows anew", x.shown(0, side > 0, 100), 5);
            check.is("rest", x.rest(0), 2);
            x.limit(4, 0, 100, -side * 3, 0, NONE);
            lots(x, 0, 7, 2, 1);
            check.is("without another turn", x.trade(1, side > 0 ? 1 : 2), 0);
        }
    }

    private static void icebergsByShares() {
        for (int side = 1; side >= -1; side -= 2) {
            check.part("9 setRule: SHARES of what icebergs show, side " + side);
            Openbook x = new Openbook();
            x.setRule(0, Openbook.SHARES, 5, 0);
            x.iceberg(0, 0, 100, side * 9, 2);
            x.limit(2, 0, 100, side * 9, 0, 0);
            x.limit(4, 0, 100, -side * 6, 0, NONE);
            // The top of the iceberg is 2 of 6; the 4 left go to the other one, which shows 9.
            lots(x, 0, 2, 4);
            Openbook y = new Openbook();
            y.setRule(0, Openbook.SHARES, 0, 0);
            y.limit(2, 0, 100, side * 6, 0, 0);
            y.iceberg(0, 0, 100, side * 40, 2);
            y.limit(4, 0, 100, -side * 4, 0, NONE);
            // 4 of 8 that are shown: 4 * 6 / 8 and 4 * 2 / 8.
            lots(y, 0, 3, 1);
            Openbook z = new Openbook();
            z.setRule(0, Openbook.SHARES, 0, 0);
            z.iceberg(0, 0, 100, side * 9, 1);
            z.limit(2, 0, 100, side * 2, 0, 0);
            z.limit(1, 0, 100, side * 2, 0, 0);
            z.limit(4, 0, 100, -side * 4, 0, NONE);
            // 4 of 5: none, 1 and 1; then one each by turns.
            lots(z, 0, 1, 2, 1);
            Openbook v = new Openbook();
            v.setRule(0, Openbook.SHARES, 1, 0);
            v.iceberg(0, 0, 100, side * 9, 1);
            v.limit(2, 0, 100, side * 2, 0, 0);
            v.limit(1, 0, 100, side * 2, 0, 0);
            v.limit(4, 0, 100, -side * 4, 0, NONE);
            // The top of 1; then 3 of 4: 1 and 1; the last one to the first that shows yet.
            lots(v, 0, 1, 2, 1);
            Openbook w = new Openbook();
            w.setRule(0, Openbook.SHARES, 0, 0);
            w.iceberg(0, 0, 100, side * 9, 1);
            w.limit(2, 0, 100, side * 3, 0, 0);
            w.limit(4, 0, 100, -side * 6, 0, NONE);
            // More than they show: all that they show; one looks again.
            lots(w, 0, 1, 3, 1, 1);
        }
    }

    private static void icebergsBySize() {
        for (int side = 1; side >= -1; side -= 2) {
            check.part("9 setRule: SIZE of what icebergs show, side " + side);
            Openbook x = new Openbook();
            x.setRule(0, Openbook.SIZE, 0, 0);
            x.iceberg(0, 0, 100, side * 9, 2);
            x.limit(2, 0, 100, side * 3, 0, 0);
            x.limit(4, 0, 100, -side * 4, 0, NONE);
            lots(x, 0, 3, 1);
            check.is("who shows more", x.trade(0, side > 0 ? 1 : 2), 2);
            Openbook y = new Openbook();
            y.setRule(0, Openbook.SIZE, 0, 0);
            y.limit(2, 0, 100, side * 3, 0, 0);
            y.iceberg(0, 0, 100, side * 9, 3);
            y.limit(4, 0, 100, -side * 4, 0, NONE);
            check.is("of several by turns", y.trade(0, side > 0 ? 1 : 2), 2);
            Openbook z = new Openbook();
            z.setRule(0, Openbook.SIZE, 0, 0);
            z.iceberg(0, 0, 100, side * 3, 2);
            z.iceberg(2, 0, 100, side * 3, 3);
            z.limit(4, 0, 100, -side * 4, 0, NONE);
            check.is("not of the same rests by turns", z.trade(0, side > 0 ? 1 : 2), 2);
        }
    }

    private static void whatAnAccountCouldComeTo() {
        for (int side = 1; side >= -1; side -= 2) {
            check.part("12 setLimit: the rests count, side " + side);
            int with = side;
            Openbook x = new Openbook();
            x.setLimit(0, 0, 10);
            x.iceberg(0, 0, 100, side * 8, 1);
            check.state("what is not shown counts", x, () -> x.limit(0, 0, 90, with * 3, 0, 0));
            x.limit(2, 0, 100, -side * 5, 0, 0);
            check.is("has", x.position(0, 0), side * 5);
            check.state("position and rest", x, () -> x.limit(0, 0, 90, with * 3, 0, 0));
            x.limit(0, 0, side > 0 ? 90 : 110, side * 2, 0, 0);
            Openbook y = new Openbook();
            y.setLimit(0, 0, 10);
            y.limit(0, 0, 100, side * 8, 0, 0);
            y.limit(2, 0, 100, -side * 5, 0, 0);
            y.limit(0, 0, 100, side * 2, 0, 0);
            check.state("no more", y, () -> y.market(0, 0, with));
        }
    }

    private static void livesAreDays() {
        check.part("15 endDay: days are not ticks");
        Openbook x = new Openbook();
        x.pass(20);
        x.limit(0, 0, 90, 1, 0, 0);
        x.limit(0, 0, 90, 1, 0, 1);
        x.iceberg(2, 0, 91, 4, 1);
        x.peg(2, 0, 90, 1, 1);
        x.stop(4, 0, 200, 0, 1);
        x.quote(6, 0, 80, 120, 1);
        check.is("all but one", x.endDay(), 6);
        check.is("the one that is left", x.stateOf(1), Openbook.BOOKED);
        check.is("it is gone", x.endDay(), 1);
        for (int kind = 0; kind < 5; kind++) {
            Openbook y = new Openbook();
            y.endDay();
            y.endDay();
            y.pass(1);
            switch (kind) {
                case 0: y.limit(0, 0, 90, 1, 0, 0); break;
                case 1: y.iceberg(0, 0, 90, 1, 1); break;
                case 2: y.peg(0, 0, 90, 1, 1); break;
                case 3: y.stop(0, 0, 200, 0, 1); break;
                default: y.quote(0, 0, 80, 120, 1); break;
            }
            check.is("kind " + kind, y.endDay(), kind == 4 ? 2 : 1);
        }
        Openbook z = new Openbook();
        z.endDay();
        z.limit(0, 0, 90, 1, 0, 2);
        check.is("day 1", z.endDay(), 0);
        check.is("day 2", z.endDay(), 0);
        check.is("day 3", z.endDay(), 1);
    }

    private static void nearestToTheReference() {
        check.part("41 indicated: the reference, not the last price");
        Openbook x = new Openbook();
        x.limit(0, 0, 110, -1, 0, 0);
        x.limit(2, 0, 110, 1, 0, 0);
        check.is("last", x.last(0, false), 110);
        x.auction(0, 1, 0, 0);
        x.limit(0, 0, 103, -2, 0, 0);
        x.limit(2, 0, 109, 2, 0, 0);
        check.is("nearest to 100", x.indicated(0, false), 103);
        Openbook y = new Openbook();
        y.limit(0, 0, 110, -1, 0, 0);
        y.limit(2, 0, 110, 1, 0, 0);
        y.auction(0, 1, 0, 0);
        y.market(0, 0, -2);
        y.market(2, 0, 3);
        check.is("without limits", y.indicated(0, false), 100);
        check.is("how much", y.indicated(0, true), 2);
        y.pass(1);
        check.is("traded at it", y.last(0, false), 100);
    }

    private static void turnsAreNotNumbers() {
        for (int side = 1; side >= -1; side -= 2) {
            check.part("14 pass: by turns, not by numbers, side " + side);
            Openbook x = new Openbook();
            x.iceberg(0, 0, 100, side * 5, 1);
            x.limit(2, 0, 100, side * 5, 0, 0);
            x.limit(4, 0, 100, -side, 0, NONE);
            check.is("of the iceberg", x.trade(0, side > 0 ? 1 : 2), 0);
            x.auction(0, 1, 0, 0);
            x.limit(4, 0, 100, -side * 3, 0, 0);
            x.pass(1);
            check.is("of the other one", x.trade(1, side > 0 ? 1 : 2), 2);
            Openbook y = new Openbook();
            y.stop(0, 0, side > 0 ? 103 : 97, 103 - (side > 0 ? 0 : 6), side * 2);
            int price = side > 0 ? 103 : 97;
            y.limit(2, 0, price, side * 2, 0, 0);
            y.limit(4, 0, price, -side, 0, NONE);
            check.is("was triggered", y.stateOf(0), Openbook.BOOKED);
            y.limit(4, 0, price, -side, 0, NONE);
            check.is("the stop is behind", y.trade(1, side > 0 ? 1 : 2), 2);
        }
    }

    private static void stopsByNumber() {
        for (int side = 1; side >= -1; side -= 2) {
            check.part("6 stop: the lowest number first, side " + side);
            Openbook x = new Openbook();
            int price = 100 + side * 2;
            int fill = x.limit(7, 0, 50, 1, 0, 0);
            int third = x.limit(7, 0, 51, 1, 0, 0);
            x.stop(0, 0, price, 0, side);
            x.cancel(third);
            x.stop(2, 0, price, 0, side);
            x.cancel(fill);
            x.stop(4, 0, price, 0, side);
            x.limit(6, 0, price, -side, 0, 0);
            x.limit(6, 0, price + side, -side * 5, 0, 0);
            x.limit(7, 0, price, side, 0, NONE);
            check.is("trades", x.trades(), 4);
            for (int k = 0; k < 3 && k + 1 < x.trades(); k++) {
                check.is("stop " + k, x.trade(k + 1, side > 0 ? 1 : 2), 2 * k);
            }
        }
    }

    private static void bestBesidesAnyPrice() {
        check.part("34 best: those at any price aside");
        Openbook x = new Openbook();
        x.auction(0, 1, 0, 0);
        x.limit(0, 0, 105, -1, 0, 0);
        x.market(0, 0, -1);
        x.limit(2, 0, 95, 1, 0, 0);
        x.market(2, 0, 1);
        check.is("to sell", x.best(0, false), 105);
        check.is("to buy", x.best(0, true), 95);
        check.is("by the log", x.bestByLog(0, false), 105);
        Openbook y = new Openbook();
        y.auction(4, 1, 0, 0);
        y.market(0, 4, -1);
        y.market(2, 4, 1);
        check.is("none to sell", y.best(4, false), NONE);
        check.is("none to buy", y.best(4, true), NONE);
        check.is("nothing shown at no price", y.shown(4, true, NONE), 0);
        check.is("nothing shown at 0", y.shown(4, true, 0), 0);
    }

    private static void givenUpToEitherSide() {
        check.part("18 giveUp: both sides, each account");
        for (int buyer = 0; buyer < 8; buyer++) {
            for (int seller = 0; seller < 8; seller++) {
                for (int to = 0; to < 8 && buyer != seller; to++) {
                    giveUpTo(buyer, seller, to);
                }
            }
        }
    }

    private static void giveUpTo(int buyer, int seller, int to) {
        Openbook x = new Openbook();
        x.limit(seller, 0, 100, -2, 0, 0);
        x.limit(buyer, 0, 100, 2, 0, 0);
        boolean isBuyer = (buyer + seller + to) % 2 == 0;
        if (to == buyer || to == seller) {
            check.state("is on a side", x, () -> x.giveUp(0, isBuyer, to));
            return;
        }
        check.is("the one before", x.giveUp(0, isBuyer, to), isBuyer ? buyer : seller);
        check.is("position", x.position(to, 0), isBuyer ? 2 : -2);
        check.is("cash", x.cash(to), isBuyer ? -200 : 200);
        check.is("in its place", x.trade(0, isBuyer ? 1 : 2), to);
    }
}
