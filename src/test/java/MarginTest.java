/** Promises 22 to 28, 47 and 48: margin and defaults. */
public final class MarginTest {
    private static final int NONE = Openbook.NONE;
    private static final int RISK = 0, VALUE = 1, CALL = 2, MONEY = 3, UNITS = 4, FUND = 5, FAILED = 6;
    private static final Check check = new Check("MarginTest");

    private MarginTest() {
    }

    public static void main(String[] args) {
        moves();
        concentration();
        values();
        haircuts();
        pays();
        payThrows();
        funds();
        fails();
        failThrows();
        bids();
        closeOutByBid();
        closeOutWithoutBids();
        closeOutThrows();
        layerMoney();
        layerUnits();
        layerFundAndStake();
        layerJuniors();
        layerJuniorsInParts();
        layerSeniors();
        layerAssessments();
        layerHouse();
        secondDefault();
        memberThrows();
        check.end();
    }

    private static void deal(Openbook x, int book, int buyer, int seller, int price, int lots) {
        x.limit(seller, book, price, -lots, 0, 0);
        x.limit(buyer, book, price, lots, 0, NONE);
    }

    private static void moves() {
        check.part("22 setMove");
        Openbook x = new Openbook();
        check.is("that before", x.setMove(3, 3, -99), 0);
        check.is("that before", x.setMove(3, 3, 99), -99);
        check.is("of this one alone", x.setMove(3, 2, 1), 0);
        check.place("scenario", x, () -> x.setMove(4, 0, 100));
        check.place("scenario", x, () -> x.setMove(-1, 0, 0));
        check.place("contract", x, () -> x.setMove(0, 4, 0));
        check.place("contract", x, () -> x.setMove(0, -1, 0));
        check.range("move", x, () -> x.setMove(0, 0, 100));
        check.range("move", x, () -> x.setMove(0, 0, -100));
        Openbook y = new Openbook();
        deal(y, 0, 0, 2, 100, 5);
        deal(y, 1, 1, 2, 100, 7);
        y.setMove(0, 0, -10);
        check.is("a loss", y.member(0, RISK), 50);
        check.is("0 at least", y.member(1, RISK), 0);
        y.setMove(0, 1, 3);
        check.is("nets of both accounts together", y.member(0, RISK), 50 - 21);
        y.setMove(1, 1, -5);
        check.is("the greatest", y.member(0, RISK), 35);
        y.setMove(2, 0, 1);
        check.is("of one who sold", y.member(1, RISK), 5);
        y.pay(0, 0, 10);
        check.is("units lose by contract 1", y.member(0, RISK), 35 + 50);
        deal(y, 4, 3, 0, 1, 5);
        check.is("a net of 0", y.member(0, RISK), 5 * 12 + 50);
    }

    private static void concentration() {
        check.part("47 member: nets above 30");
        Openbook x = new Openbook();
        deal(x, 0, 0, 2, 100, 30);
        check.is("30", x.member(0, RISK), 0);
        deal(x, 0, 1, 2, 100, 2);
        check.is("32", x.member(0, RISK), 10);
        check.is("-32", x.member(1, RISK), 10);
        deal(x, 2, 2, 0, 100, 41);
        check.is("and 41", x.member(0, RISK), 10 + 55);
    }

    private static void values() {
        check.part("47 member: value and call");
        Openbook x = new Openbook();
        deal(x, 0, 0, 2, 100, 5);
        deal(x, 3, 1, 4, 10, 5);
        check.is("value at the price", x.member(0, VALUE), 0);
        deal(x, 0, 6, 4, 90, 1);
        check.is("at the last price", x.member(0, VALUE), -50);
        check.is("the other side", x.member(1, VALUE), 50);
        check.is("call", x.member(0, CALL), 50);
        check.is("0 at least", x.member(1, CALL), 0);
        x.setMove(0, 3, -4);
        check.is("with the risk", x.member(0, CALL), 70);
        check.is("pay answers the call then", x.pay(0, 15, 0), 55);
        check.is("call", x.member(0, CALL), 55);
    }

    private static void haircuts() {
        check.part("23 setHaircut");
        Openbook x = new Openbook();
        deal(x, 0, 0, 2, 200, 9);
        deal(x, 0, 4, 6, 100, 1);
        deal(x, 1, 4, 6, 33, 1);
        check.is("call", x.member(0, CALL), 900);
        x.pay(0, 0, 3);
        check.is("units at the last price of contract 1", x.member(0, CALL), 900 - 99);
        check.is("that before", x.setHaircut(50), 0);
        check.is("rounded down", x.member(0, CALL), 900 - 49);
        check.is("that before", x.setHaircut(100), 50);
        check.is("worth nothing", x.member(0, CALL), 900);
        for (int percent : new int[] {-1, 101, Integer.MAX_VALUE, Integer.MIN_VALUE}) {
            check.range("percent", x, () -> x.setHaircut(percent));
        }
        check.is("that before", x.setHaircut(0), 100);
    }

    private static void pays() {
        check.part("24 pay");
        Openbook x = new Openbook();
        check.is("no call", x.pay(0, 9999, 99), 0);
        check.is("money", x.member(0, MONEY), 9999);
        check.is("units", x.member(0, UNITS), 99);
        check.is("out", x.pay(0, -9999, -99), 0);
        check.is("money", x.member(0, MONEY), 0);
        check.is("units", x.member(0, UNITS), 0);
        check.is("nothing", x.pay(0, 0, 0), 0);
        deal(x, 0, 0, 2, 150, 10);
        deal(x, 0, 4, 6, 100, 1);
        check.is("call", x.pay(0, 0, 0), 500);
        check.is("less", x.pay(0, 100, 1), 300);
        check.is("none", x.pay(0, 350, 0), 0);
        check.state("one out, and a call", x, () -> x.pay(0, -51, 0));
        check.is("to no call", x.pay(0, -50, 0), 0);
        check.state("units out, and a call", x, () -> x.pay(0, 99, -1));
        check.is("one in, one out", x.pay(0, 100, -1), 0);
        check.is("money", x.member(0, MONEY), 500);
        check.is("units", x.member(0, UNITS), 0);
        check.state("money out for units, and a call", x, () -> x.pay(0, -101, 1));
        check.is("money out for units", x.pay(0, -100, 1), 0);
        Openbook y = new Openbook();
        for (int time = 0; time < 4; time++) {
            deal(y, 0, 0, 2, 9999, 50);
        }
        for (int time = 0; time < 4; time++) {
            y.convert(0, 8, 1);
        }
        deal(y, 0, 4, 6, 9999, 1);
        long call = y.member(1, CALL);
        check.is("above what an int has", call > Integer.MAX_VALUE ? 1 : 0, 1);
        check.is("goes round", y.pay(1, 0, 0), (int) call);
    }

    private static void payThrows() {
        check.part("24 pay: wrong inputs");
        Openbook x = new Openbook();
        check.place("member", x, () -> x.pay(4, 10000, 0));
        check.place("member", x, () -> x.pay(-1, 0, 0));
        for (int bad : new int[] {-10000, 10000, Integer.MIN_VALUE}) {
            check.range("money", x, () -> x.pay(0, bad, 0));
        }
        for (int bad : new int[] {-100, 100, Integer.MIN_VALUE}) {
            check.range("units", x, () -> x.pay(0, 0, bad));
        }
        x.pay(0, 5, 1);
        check.state("less than 0 money", x, () -> x.pay(0, -6, 1));
        check.state("less than 0 units", x, () -> x.pay(0, 5, -2));
        check.range("range ahead of state", x, () -> x.pay(0, -6, 100));
    }

    private static void funds() {
        check.part("25 setFund");
        Openbook x = new Openbook();
        check.is("that before", x.setFund(3, 9999), 200);
        check.is("that before", x.setFund(3, 0), 9999);
        check.is("fund", x.member(3, FUND), 0);
        check.is("of this one alone", x.member(2, FUND), 200);
        check.place("member", x, () -> x.setFund(4, -1));
        check.place("member", x, () -> x.setFund(-1, 0));
        check.range("amount", x, () -> x.setFund(0, -1));
        check.range("amount", x, () -> x.setFund(0, 10000));
    }

    private static void fails() {
        check.part("26 fail");
        Openbook x = new Openbook();
        deal(x, 0, 0, 2, 110, 10);
        deal(x, 0, 4, 6, 100, 1);
        x.limit(0, 0, 90, 1, 0, 0);
        x.peg(1, 0, 90, 1, 0);
        x.stop(1, 3, 900, 0, 1);
        x.quote(1, 5, -1, 1, 1);
        x.limit(2, 0, 91, 1, 0, 0);
        check.is("orders of it are gone", x.fail(0), 5);
        check.is("not those of others", x.best(0, true), 91);
        check.is("failed", x.member(0, FAILED), 1);
        check.is("not others", x.member(1, FAILED), 0);
        check.state("limit", x, () -> x.limit(0, 0, 90, 1, 0, 0));
        check.state("market", x, () -> x.market(1, 0, 1));
        check.state("iceberg", x, () -> x.iceberg(1, 0, 90, 1, 1));
        check.state("peg", x, () -> x.peg(1, 0, 90, 1, 1));
        check.state("stop", x, () -> x.stop(1, 0, 90, 1, 1));
        check.state("quote", x, () -> x.quote(1, 0, 90, 91, 1));
        check.state("pay", x, () -> x.pay(0, 1, 0));
        check.state("setFund", x, () -> x.setFund(0, 1));
        check.is("can be given up to yet", x.giveUp(1, true, 1), 4);
    }

    private static void failThrows() {
        check.part("26 fail: wrong inputs");
        Openbook x = new Openbook();
        for (int member : new int[] {-1, 4, Integer.MAX_VALUE}) {
            check.place("member", x, () -> x.fail(member));
        }
        check.state("its call is 0", x, () -> x.fail(0));
        deal(x, 0, 0, 2, 110, 10);
        deal(x, 0, 4, 6, 100, 1);
        x.pay(0, 100, 0);
        check.state("its call is 0", x, () -> x.fail(0));
        x.setMove(0, 0, -1);
        check.is("it is not", x.fail(0), 0);
        check.state("it has failed", x, () -> x.fail(0));
        x.setMove(1, 0, 1);
        check.is("call", x.member(3, CALL) > 0 ? 1 : 0, 1);
        check.state("another one is not closed out yet", x, () -> x.fail(3));
        x.closeOut();
        check.is("it is", x.fail(3), 0);
        x.closeOut();
        check.state("it has failed", x, () -> x.fail(3));
    }

    private static void bids() {
        check.part("27 bid");
        Openbook x = new Openbook();
        check.place("member", x, () -> x.bid(4, 10000));
        check.place("member", x, () -> x.bid(-1, 0));
        check.range("amount", x, () -> x.bid(0, 10000));
        check.range("amount", x, () -> x.bid(0, -10000));
        check.state("no such portfolio", x, () -> x.bid(0, 0));
        deal(x, 0, 0, 2, 110, 10);
        deal(x, 0, 4, 6, 100, 1);
        x.fail(0);
        check.state("it has failed", x, () -> x.bid(0, 0));
        check.is("one", x.bid(2, 9999), 1);
        check.is("in place of one before", x.bid(2, -9999), 1);
        check.is("two", x.bid(1, 0), 2);
        check.is("three", x.bid(3, 5), 3);
        check.is("bids are known no more after that", x.closeOut() >= 0 ? 1 : 0, 1);
        check.is("who bid most", x.position(6, 0), 10 - 1);
        check.state("no such portfolio", x, () -> x.bid(1, 0));
    }

    private static void closeOutByBid() {
        check.part("28 closeOut: by a bid");
        Openbook x = new Openbook();
        deal(x, 0, 0, 2, 110, 10);
        deal(x, 1, 1, 2, 100, 3);
        deal(x, 2, 2, 1, 100, 4);
        deal(x, 0, 4, 6, 100, 1);
        x.pay(0, 30, 0);
        x.fail(0);
        x.bid(3, 950);
        x.bid(1, 950);
        x.bid(2, 949);
        // -1100 - 300 + 400 + 950: 50 are lost, 30 of them are money.
        check.is("layer", x.closeOut(), 3);
        check.is("the lowest of those who bid most", x.position(2, 0), 0);
        check.is("net", x.position(2, 1), 0);
        check.is("net", x.position(2, 2), 0);
        check.is("nothing left", x.position(0, 0), 0);
        check.is("nothing left", x.position(1, 1), 0);
        check.is("nothing left", x.position(1, 2), 0);
        check.is("pays", x.cash(2), 1100 + 300 - 400 - 950);
        check.is("covered", x.cash(0), 0);
        check.is("the other one has 0", x.cash(1), 0);
        check.is("money", x.member(0, MONEY), 0);
        check.is("fund", x.member(0, FUND), 180);
    }

    private static void closeOutWithoutBids() {
        check.part("28 closeOut: without bids");
        Openbook x = new Openbook();
        deal(x, 0, 0, 2, 110, 10);
        deal(x, 3, 2, 1, 10, 4);
        deal(x, 0, 4, 6, 100, 1);
        x.fail(0);
        check.is("the loss is 100: its fund", x.closeOut(), 3);
        check.is("the HOUSE has it", x.position(8, 0), 10);
        check.is("the HOUSE has it", x.position(8, 3), -4);
        check.is("for what it is worth", x.cash(8), -1000 + 40);
        check.is("fund", x.member(0, FUND), 100);
        check.is("cash", x.cash(0), 0);
        check.is("other one", x.cash(1), 0);
        Openbook y = new Openbook();
        deal(y, 0, 0, 2, 100, 40);
        y.fail(0);
        check.is("no loss", y.closeOut(), 0);
        check.is("cash", y.cash(0), 0);
        Openbook z = new Openbook();
        deal(z, 0, 0, 2, 100, 40);
        z.fail(0);
        z.bid(2, 4123);
        check.is("no loss", z.closeOut(), 0);
        check.is("it stays in the account", z.cash(0), 123);
        check.is("paid", z.cash(4), -4123);
    }

    private static void closeOutThrows() {
        check.part("28 closeOut: wrong states");
        Openbook x = new Openbook();
        check.state("none", x, () -> x.closeOut());
        deal(x, 0, 0, 2, 100, 40);
        x.fail(1);
        x.closeOut();
        check.state("none any more", x, () -> x.closeOut());
    }

    /** Member 0 has bought 10 of contract 0 at a price that makes its loss, closed out without bids, this one. */
    private static Openbook failedWith(int loss, int money, int units, int fund) {
        Openbook x = new Openbook();
        deal(x, 0, 0, 2, 100 + loss / 10, 10);
        deal(x, 0, 4, 7, 100, 1);
        x.pay(0, money, units);
        x.setFund(0, fund);
        x.setMove(0, 0, -99);
        x.setMove(0, 1, 0);
        x.fail(0);
        return x;
    }

    private static void layerMoney() {
        check.part("28 closeOut: money");
        Openbook x = failedWith(500, 600, 5, 200);
        check.is("layer", x.closeOut(), 1);
        check.is("money", x.member(0, MONEY), 100);
        check.is("units", x.member(0, UNITS), 5);
        check.is("cash", x.cash(0), 0);
        check.is("HOUSE", x.cash(8), -1000);
    }

    private static void layerUnits() {
        check.part("28 closeOut: units");
        Openbook x = failedWith(550, 100, 9, 200);
        check.is("layer", x.closeOut(), 2);
        check.is("as many as needed", x.member(0, UNITS), 4);
        check.is("what comes above stays", x.cash(0), 50);
        check.is("the HOUSE pays", x.cash(8), -1000 - 500);
        check.is("fund", x.member(0, FUND), 200);
        Openbook y = failedWith(500, 0, 5, 200);
        check.is("layer", y.closeOut(), 2);
        check.is("all of them", y.member(0, UNITS), 0);
        check.is("nothing above", y.cash(0), 0);
        Openbook z = failedWith(500, 0, 2, 300);
        z.setHaircut(100);
        check.is("layer", z.closeOut(), 3);
        check.is("the haircut does not count", z.member(0, FUND), 0);
    }

    private static void layerFundAndStake() {
        check.part("28 closeOut: fund and stake");
        Openbook x = failedWith(200, 0, 0, 200);
        check.is("layer", x.closeOut(), 3);
        check.is("fund", x.member(0, FUND), 0);
        check.is("stake", x.stake(), 500);
        Openbook y = failedWith(700, 0, 0, 200);
        check.is("layer", y.closeOut(), 4);
        check.is("stake", y.stake(), 0);
        check.is("others", y.member(1, FUND), 200);
        Openbook z = failedWith(210, 0, 0, 200);
        check.is("layer", z.closeOut(), 4);
        check.is("stake", z.stake(), 490);
        check.is("the HOUSE pays for the portfolio alone", z.cash(8), -1000);
    }

    private static void layerJuniors() {
        check.part("28 closeOut: juniors");
        Openbook x = failedWith(1200, 0, 0, 200);
        x.bid(1, 1000);
        x.bid(2, 900);
        x.bid(3, 899);
        check.is("layer", x.closeOut(), 6);
        // 500 are left: 200 of member 3, then 300 of the 400 of members 1 and 2.
        check.is("less by more than 100", x.member(3, FUND), 0);
        check.is("less by 100", x.member(2, FUND), 50);
        check.is("who bid most", x.member(1, FUND), 50);
        Openbook y = failedWith(800, 0, 0, 200);
        y.bid(1, 1000);
        y.bid(3, 950);
        check.is("layer", y.closeOut(), 5);
        check.is("who bid nothing", y.member(2, FUND), 100);
        check.is("not the others", y.member(1, FUND) + y.member(3, FUND), 400);
    }

    private static void layerJuniorsInParts() {
        check.part("28 closeOut: in parts");
        Openbook x = failedWith(800, 0, 0, 200);
        x.setFund(1, 100);
        x.setFund(2, 0);
        x.setFund(3, 201);
        check.is("layer", x.closeOut(), 5);
        // 100 times 100 and 201, divided by 301: 33 and 66; one each for what is left.
        check.is("one more", x.member(1, FUND), 100 - 34);
        check.is("none", x.member(2, FUND), 0);
        check.is("rounded down", x.member(3, FUND), 201 - 66);
        Openbook y = failedWith(710, 0, 0, 200);
        y.setFund(1, 0);
        y.setFund(2, 3);
        y.setFund(3, 8);
        y.closeOut();
        // 10 times 3 and 8, divided by 11: 2 and 7; one more for member 2.
        check.is("one more", y.member(2, FUND), 0);
        check.is("none more", y.member(3, FUND), 1);
        Openbook z = failedWith(710, 0, 0, 200);
        z.setFund(1, 5);
        z.setFund(2, 5);
        z.setFund(3, 0);
        check.is("whole parts", z.closeOut(), 5);
        check.is("all", z.member(1, FUND) + z.member(2, FUND), 0);
    }

    private static void layerSeniors() {
        check.part("28 closeOut: the other ones");
        Openbook x = failedWith(900, 0, 0, 200);
        x.bid(1, 1000);
        x.bid(2, 1000);
        x.bid(3, 1000);
        check.is("layer", x.closeOut(), 6);
        check.is("parts", x.member(1, FUND), 200 - 67);
        check.is("parts", x.member(2, FUND), 200 - 67);
        check.is("parts", x.member(3, FUND), 200 - 66);
    }

    private static void layerAssessments() {
        check.part("28 closeOut: assessments");
        Openbook x = failedWith(1600, 0, 0, 200);
        x.setFund(3, 500);
        check.is("all without a bid are juniors", x.closeOut(), 5);
        Openbook y = failedWith(1600, 0, 0, 200);
        y.setFund(1, 100);
        y.bid(3, 1000);
        long lower = y.cash(6);
        long first = y.cash(2);
        check.is("layer", y.closeOut(), 7);
        // 900 are left after the stake: 300, then 200; 400 of the 500 there were at the beginning.
        check.is("funds", y.member(1, FUND) + y.member(2, FUND) + y.member(3, FUND), 0);
        check.is("from the lower account", y.cash(2), first - 80);
        check.is("below 0, too", y.cash(4), -100 - 160);
        check.is("of who bid as well", y.cash(6), lower - 1000 - 160);
        check.is("HOUSE", y.cash(8), 0);
    }

    private static void layerHouse() {
        check.part("28 closeOut: the HOUSE");
        Openbook x = failedWith(2000, 0, 0, 200);
        check.is("layer", x.closeOut(), 8);
        check.is("all that is left", x.cash(8), -1000 - 100);
        check.is("cash", x.cash(0), 0);
        check.is("assessed", x.cash(4), -100 - 200);
        long sum = 0;
        for (int account = 0; account < 9; account++) {
            sum += x.cash(account);
        }
        check.is("what came from funds and stake", sum, 200 + 500 + 600);
    }

    private static void secondDefault() {
        check.part("28 closeOut: a second one");
        Openbook x = failedWith(800, 0, 0, 200);
        x.bid(1, 1000);
        x.closeOut();
        check.is("fund", x.member(2, FUND), 150);
        x.setMove(1, 0, 99);
        check.is("fails", x.fail(3), 0);
        check.is("bids are new", x.bid(2, -2000), 1);
        check.is("layer", x.closeOut(), 8);
        check.is("failed ones are no juniors", x.member(0, FUND), 0);
        check.is("failed ones are not assessed", x.cash(0), 0);
        check.is("the only bidder", x.position(4, 0), 1 - 1);
        check.is("junior", x.member(1, FUND), 0);
    }

    private static void memberThrows() {
        check.part("47 member: wrong inputs");
        Openbook x = new Openbook();
        for (int member : new int[] {-1, 4, Integer.MAX_VALUE, Integer.MIN_VALUE}) {
            check.place("member", x, () -> x.member(member, 9));
        }
        for (int what : new int[] {-1, 7, Integer.MAX_VALUE, Integer.MIN_VALUE}) {
            check.range("what", x, () -> x.member(0, what));
        }
    }
}
