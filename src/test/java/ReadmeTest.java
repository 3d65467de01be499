/** The examples of README.md answer what it says there. */
public final class ReadmeTest {
    private static final Check check = new Check("ReadmeTest");

    public static void main(String[] args) {
        orders();
        auction();
        failing();
        check.end();
    }

    private static void orders() {
        check.part("orders");
        Openbook x = new Openbook();
        int sell = x.limit(0, 0, 101, -5, 0, 0);
        int buy = x.market(2, 0, 3);
        check.is("sell", sell, 0);
        check.is("buy", buy, 1);
        check.is("trade", x.trade(0, 3), 101);
        check.is("rest", x.rest(sell), 2);
    }

    private static void auction() {
        check.part("an AUCTION, and a fail-over behind it");
        Openbook y = new Openbook();
        check.is("auction", y.auction(0, 3, 1, 0), 3);
        check.is("limit", y.limit(0, 0, 97, 6, 0, 0), 0);
        check.is("limit", y.limit(2, 0, 96, -4, 0, 0), 1);
        check.is("indicated", y.indicated(0, false), 97);
        check.is("keep", y.keep(), 3);
        check.is("pass", y.pass(3), 3);
        check.is("trade", y.trade(0, 3), 97);
        check.is("best", y.best(0, true), 97);
        check.is("rest", y.rest(0), 2);
        check.is("failOver", y.failOver(), 1);
        check.is("trades", y.trades(), 0);
        check.is("endOf", y.endOf(0), 3);
    }

    private static void failing() {
        check.part("a member that fails, and is closed out");
        Openbook z = new Openbook();
        z.limit(0, 1, 100, 40, 0, 0);
        z.limit(4, 1, 100, -40, 0, 0);
        check.is("setMove", z.setMove(0, 1, 12), 0);
        check.is("call", z.member(2, 2), 530);
        check.is("fail", z.fail(2), 0);
        check.is("bid", z.bid(1, -4200), 1);
        check.is("closeOut", z.closeOut(), 3);
        check.is("fund", z.member(2, 5), 0);
        check.is("position", z.position(2, 1), -40);
    }
}
