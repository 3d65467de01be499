import java.util.Random;

/** The terms on what comes later, margin, defaults and the log, sentence by sentence: each at its edge. */
public final class ClearingTermsTest {
    private static final int NONE = Openbook.NONE;
    private static final int GONE = Openbook.GONE, BOOKED = Openbook.BOOKED, WAITING = Openbook.WAITING;
    private static final int RISK = 0, VALUE = 1, CALL = 2, MONEY = 3, UNITS = 4, FUND = 5, FAILED = 6;
    private static final Check check = new Check("ClearingTermsTest");

    private ClearingTermsTest() {
    }

    public static void main(String[] args) {
        keptSixty();
        bustedInTurn();
        stopsWaitAgain();
        stopsOfOtherTrades();
        allotted();
        exercised();
        exercisedOfTheHouse();
        convertedToTheMost();
        convertedPrices();
        convertedPositions();
        marginByTheWords();
        aboveThirty();
        paidOut();
        failsTwice();
        eachLayerToTheLot();
        layersThatAreEmpty();
        juniorsByTheBid();
        sharedByTheWords();
        bidsTie();
        amountsBelowNull();
        logOfAllCalls();
        logThatIsFull();
        failOverToWhatIsKept();
        check.end();
    }

    private static void deal(Openbook x, int book, int buyer, int seller, int price, int lots) {
        x.limit(seller, book, price, -lots, 0, 0);
        x.limit(buyer, book, price, lots, 0, NONE);
    }

    // ---- later

    private static void keptSixty() {
        check.part("the latest 60 trades are kept");
        for (int count = 59; count <= 62; count++) {
            Openbook x = new Openbook();
            for (int trade = 0; trade < count; trade++) {
                deal(x, trade % 3, 0, 2, 50 + trade, 1);
            }
            int oldest = Math.max(0, count - 60);
            check.is("oldest", x.trade(oldest, 3), 50 + oldest);
            int before = oldest - 1;
            check.place("the one before", x, () -> x.trade(before, 3));
            check.place("the one before", x, () -> x.bust(before));
            check.place("the one before", x, () -> x.adjust(before, 50));
            check.place("the one before", x, () -> x.giveUp(before, true, 4));
            int behind = count;
            check.place("the one to come", x, () -> x.trade(behind, 3));
            check.is("all of them are counted", x.trades(), count);
            check.is("busted ones are kept", x.bust(oldest) > 0 ? x.trade(oldest, 5) : 0, 1);
        }
        check.part("busted and converted ones count among the 60");
        Openbook x = new Openbook();
        deal(x, 3, 0, 2, 70, 1);
        for (int trade = 0; trade < 59; trade++) {
            deal(x, 0, 0, 2, 100, 1);
        }
        x.convert(0, 1, 1);
        check.is("the 60th", x.trade(0, 3), 70);
        deal(x, 1, 0, 2, 100, 1);
        check.place("the 61st", x, () -> x.trade(0, 3));
    }

    private static void bustedInTurn() {
        check.part("the last price becomes that of the one that is then, of those kept, or the reference");
        Openbook x = new Openbook();
        for (int price = 101; price <= 105; price++) {
            deal(x, 0, 0, 2, price, 1);
            deal(x, 1, 0, 2, price + 50, 1);
        }
        check.is("the latest", x.bust(8), 104);
        check.is("one in the midst", x.bust(4), 104);
        check.is("the first", x.bust(0), 104);
        check.is("the latest of those left", x.bust(6), 102);
        check.is("the last one left", x.bust(2), 100);
        check.is("of the other book", x.last(1, false), 155);
        for (int contract = 0; contract < 4; contract++) {
            check.is("position", x.position(0, contract), contract == 1 ? 5 : 0);
        }
        check.is("cash", x.cash(0), -5L * 153);
        check.part("a trade with oneself");
        Openbook y = new Openbook();
        deal(y, 0, 0, 0, 103, 4);
        check.is("position", y.position(0, 0), 0);
        check.is("cash", y.cash(0), 0);
        check.is("busted", y.bust(0), 100);
        check.is("position", y.position(0, 0), 0);
        check.part("of a combination alone");
        Openbook z = new Openbook();
        z.limit(0, 0, 101, -2, 0, 0);
        z.limit(2, 1, 99, 2, 0, 0);
        z.limit(4, 4, 2, 2, 0, 0);
        check.is("the first of both", z.bust(0), 100);
        check.is("the other one stays", z.position(4, 1), -2);
        check.is("not this one", z.position(4, 0), 0);
        check.is("rests do not come again", z.stateOf(0), GONE);
    }

    private static void stopsWaitAgain() {
        check.part("a stop that was triggered when this was the latest trade waits again");
        Openbook x = new Openbook();
        deal(x, 0, 2, 4, 100, 1);
        x.stop(0, 0, 105, 99, 1);
        deal(x, 0, 2, 4, 105, 1);
        check.is("triggered", x.priceOf(2), 99);
        deal(x, 0, 2, 4, 100, 1);
        x.bust(0);
        check.is("not by the first trade", x.stateOf(2), BOOKED);
        x.bust(2);
        check.is("not by the third one", x.stateOf(2), BOOKED);
        deal(x, 0, 2, 4, 101, 1);
        check.is("the last price", x.bust(1), 101);
        check.is("by the second one, which is the latest no more", x.stateOf(2), WAITING);
        check.is("no price", x.priceOf(2), NONE);
        check.is("its rest", x.rest(2), 1);
        check.is("not shown", x.shown(0, true, 99), 0);
        check.is("no best one", x.best(0, true), NONE);
        check.part("is live, and has not traded yet");
        Openbook z = new Openbook();
        z.stop(0, 0, 105, 104, 3);
        z.stop(1, 0, 105, 103, 3);
        z.stop(2, 0, 105, 102, 3);
        deal(z, 0, 4, 6, 105, 1);
        z.cancel(2);
        z.limit(6, 0, 104, -1, 0, 0);
        check.is("the first one has traded", z.rest(0), 2);
        check.is("the last price", z.bust(0), 104);
        check.is("has traded", z.stateOf(0), BOOKED);
        check.is("has not", z.stateOf(1), WAITING);
        check.is("is not live", z.stateOf(2), GONE);
        check.part("it gets another turn when it is triggered again");
        Openbook w = new Openbook();
        w.stop(0, 0, 105, 103, 1);
        deal(w, 0, 4, 6, 105, 1);
        w.limit(2, 0, 103, 1, 0, 0);
        w.bust(0);
        deal(w, 0, 4, 6, 105, 1);
        w.limit(6, 0, 103, -1, 0, 0);
        check.is("the other one is first", w.trade(2, 1), 2);
    }

    private static void stopsOfOtherTrades() {
        check.part("not one that was triggered by an adjusted price of another trade, by the reference, or in another book");
        Openbook x = new Openbook();
        x.stop(0, 0, 100, 90, 1);
        deal(x, 0, 2, 4, 95, 1);
        check.is("triggered ahead of all trades", x.bust(0), 100);
        x.limit(6, 0, 90, -1, 0, 0);
        check.is("is in the book", x.position(0, 0), 1);
        Openbook y = new Openbook();
        y.stop(0, 0, 105, 90, 1);
        y.stop(0, 1, 105, 90, 1);
        deal(y, 1, 2, 4, 105, 1);
        deal(y, 0, 2, 4, 105, 1);
        y.bust(0);
        check.is("of its book", y.stateOf(1), WAITING);
        check.is("of another book", y.stateOf(0), BOOKED);
        check.part("it waits in an AUCTION, and when that was begun by it");
        Openbook z = new Openbook();
        z.setBand(0, 6);
        z.limit(6, 0, 107, -1, 0, 0);
        z.stop(0, 0, 105, 108, 2);
        deal(z, 0, 2, 4, 105, 1);
        check.is("an AUCTION", z.endOf(0), 5);
        check.is("collected", z.indicated(0, true), 1);
        z.bust(0);
        check.is("waits again", z.stateOf(1), WAITING);
        check.is("nothing to trade", z.indicated(0, true), 0);
        z.pass(5);
        check.is("waits", z.stateOf(1), WAITING);
        check.is("no trade", z.trades(), 1);
    }

    private static void allotted() {
        check.part("the position is not as great on this side, or there is no average price");
        for (int side = 1; side >= -1; side -= 2) {
            int with = side;
            Openbook x = new Openbook();
            deal(x, 0, side > 0 ? 0 : 2, side > 0 ? 2 : 0, 103, 5);
            deal(x, 0, side > 0 ? 2 : 0, side > 0 ? 0 : 2, 90, 2);
            check.is("position", x.position(0, 0), 3 * side);
            check.state("4 of 3", x, () -> x.allot(0, 4, 0, 4 * with));
            check.state("on the other side", x, () -> x.allot(0, 4, 0, -with));
            check.is("3 of 3", x.allot(0, 4, 0, 3 * side), 103);
            check.state("1 of 0", x, () -> x.allot(0, 4, 0, with));
            check.state("1 of 0", x, () -> x.allot(0, 4, 0, -with));
            check.state("no trade of its own", x, () -> x.allot(4, 0, 0, with));
            check.is("cash of who gets it", x.cash(4), -309L * side);
            check.is("cash of who gives it", x.cash(0), -515L * side + 180 * side + 309L * side);
            x.bust(0);
            check.is("position", x.position(0, 0), -5 * side);
            check.is("the other side is what is left", x.allot(0, 5, 0, -5 * side), 90);
        }
        check.part("the average price of a trade with oneself is on both sides");
        Openbook x = new Openbook();
        deal(x, 0, 0, 0, 120, 1);
        deal(x, 0, 0, 2, 101, 1);
        check.is("bought", x.allot(0, 4, 0, 1), 110);
    }

    private static void exercised() {
        check.part("its position in contract 3 is less");
        for (int quantity = 1; quantity <= 3; quantity++) {
            int lots = quantity;
            Openbook x = new Openbook();
            deal(x, 3, 0, 2, 7, 2);
            if (quantity <= 2) {
                check.is("assigned", x.exercise(0, lots, 77), 2);
                check.is("right", x.position(0, 3), 2 - lots);
                check.is("short", x.position(2, 3), lots - 2);
                check.is("contract 0", x.position(0, 0), lots);
                check.is("sold", x.position(2, 0), -lots);
                check.is("cash", x.cash(0), -14 - 100L * lots);
                check.is("cash", x.cash(2), 14 + 100L * lots);
            } else {
                check.state("3 of 2", x, () -> x.exercise(0, lots, 77));
            }
        }
        check.part("the remainder of 421 times it and 1663 by 7875; the accounts by rising numbers");
        for (int draw = 0; draw < 7875; draw += draw < 20 || draw > 7850 ? 1 : 97) {
            Openbook x = new Openbook();
            int[] lacks = {0, 3, 1, 0, 2, 4, 1, 0};
            for (int account = 0; account < 8; account++) {
                if (lacks[account] > 0) {
                    deal(x, 3, 7, account, 7, lacks[account]);
                }
            }
            long number = draw;
            int due = -1;
            for (int lot = 0; lot < 4; lot++) {
                number = (421 * number + 1663) % 7875;
                long place = number % (11 - lot);
                for (due = 0; place >= lacks[due]; due++) {
                    place -= lacks[due];
                }
                lacks[due]--;
            }
            check.is("draw " + draw, x.exercise(7, 4, draw), due);
            for (int account = 0; account < 7; account++) {
                check.is("short yet", x.position(account, 3), -lacks[account]);
            }
        }
    }

    private static void exercisedOfTheHouse() {
        check.part("what all accounts, the HOUSE with them, are short of contract 3 together");
        int house = 0;
        for (int draw = 0; draw < 7875; draw += 41) {
            Openbook x = new Openbook();
            deal(x, 3, 2, 0, 100, 4);
            deal(x, 3, 3, 6, 100, 3);
            x.setMove(0, 3, 99);
            x.setMove(1, 3, -99);
            deal(x, 3, 4, 5, 150, 1);
            x.fail(0);
            x.closeOut();
            check.is("the HOUSE is short", x.position(8, 3), -4);
            int[] lacks = {0, 0, 0, 0, 0, 1, 3, 0, 4};
            deal(x, 3, 2, 5, 150, 1);
            lacks[5] = -x.position(5, 3);
            int all = lacks[5] + 3 + 4;
            int place = (421 * draw + 1663) % 7875 % all;
            int due = 0;
            for (; place >= lacks[due]; due++) {
                place -= lacks[due];
            }
            long cash = x.cash(8);
            check.is("assigned by " + draw, x.exercise(2, 1, draw), due);
            check.is("short", x.position(8, 3), due == 8 ? -3 : -4);
            check.is("contract 0", x.position(8, 0), due == 8 ? -1 : 0);
            check.is("cash", x.cash(8), cash + (due == 8 ? 100 : 0));
            house += due == 8 ? 1 : 0;
        }
        check.is("the HOUSE at times", house > 20 ? 1 : 0, 1);
    }

    /** Account 0 has what is told of contract 0 above 200 times 5000, account 2 as many less than 0. */
    private static Openbook great(int more) {
        Openbook x = new Openbook();
        for (int time = 0; time < 4; time++) {
            deal(x, 0, 0, 2, 100, 50);
        }
        for (int factor : new int[] {5, 5, 5, 5, 8}) {
            x.convert(0, factor, 1);
        }
        if (more != 0) {
            int buyer = more > 0 ? 4 : 2;
            deal(x, 0, buyer, more > 0 ? 6 : 4, 100, Math.abs(more));
            x.allot(4, 0, 0, more);
        }
        return x;
    }

    private static void convertedToTheMost() {
        check.part("above 1000000, or below -1000000");
        Openbook x = great(0);
        check.is("1000000", x.position(0, 0), 1000000);
        check.is("is not above", x.convert(0, 1, 1), 0);
        check.is("1000000", x.position(0, 0), 1000000);
        check.is("-1000000", x.position(2, 0), -1000000);
        Openbook y = great(1);
        check.is("1000001", y.position(0, 0), 1000001);
        check.state("is above", y, () -> y.convert(0, 1, 1));
        check.state("is above", y, () -> y.convert(0, 9, 9));
        check.is("the half is not", y.convert(0, 1, 2), 0);
        check.is("rounded towards 0", y.position(0, 0), 500000);
        check.is("twice that is not", y.convert(0, 2, 1), 0);
        Openbook z = great(-1);
        check.is("position", z.position(0, 0), 999999);
        check.is("-1000000", z.position(2, 0), -999999);
        check.is("short", z.position(4, 0), 0);
        check.is("is not below", z.convert(0, 1, 1), 0);
        Openbook w = new Openbook();
        for (int time = 0; time < 4; time++) {
            deal(w, 0, 2, 0, 100, 50);
        }
        for (int factor : new int[] {5, 5, 5, 5, 8}) {
            w.convert(0, factor, 1);
        }
        deal(w, 0, 6, 4, 100, 1);
        w.allot(4, 0, 0, -1);
        check.is("-1000001", w.position(0, 0), -1000001);
        check.state("is below", w, () -> w.convert(0, 1, 1));
        check.part("of an account 0 to 7, not of the HOUSE; of the contract alone");
        check.is("another contract", w.convert(1, 9, 1), 0);
    }

    private static void convertedPrices() {
        check.part("times the denominator, divided by the numerator, but 1 at least, and 9999 at most");
        for (int price : new int[] {1, 2, 7, 8, 9, 10, 100, 1111, 1112, 5000, 9999}) {
            for (int numerator = 1; numerator <= 9; numerator++) {
                for (int denominator = 1; denominator <= 9; denominator += 4) {
                    Openbook x = new Openbook();
                    deal(x, 2, 0, 2, price, 1);
                    x.convert(2, numerator, denominator);
                    int due = Math.min(9999, Math.max(1, price * denominator / numerator));
                    check.is(price + " by " + numerator + " to " + denominator, x.last(2, false), due);
                    check.is("reference", x.last(2, true), 100 * denominator / numerator);
                    check.is("of a spread", x.last(5, false), 0);
                    check.is("of another contract", x.last(1, true), 100);
                }
            }
        }
    }

    private static void convertedPositions() {
        check.part("times the numerator, divided by the denominator, towards 0; the HOUSE; cash for what was rounded away");
        for (int numerator = 1; numerator <= 9; numerator++) {
            for (int denominator = 1; denominator <= 9; denominator++) {
                Openbook x = new Openbook();
                deal(x, 1, 0, 2, 37, 7);
                deal(x, 1, 5, 2, 37, 4);
                long[] before = {-7 * 37, 0, 11 * 37, 0, 0, -4 * 37, 0, 0, 0};
                int[] positions = {7, 0, -11, 0, 0, 4, 0, 0};
                x.convert(1, numerator, denominator);
                int price = Math.max(1, 37 * denominator / numerator);
                int sum = 0;
                long paid = 0;
                for (int account = 0; account < 8; account++) {
                    int product = positions[account] * numerator;
                    int due = product >= 0 ? product / denominator : -(-product / denominator);
                    check.is("position of " + account, x.position(account, 1), due);
                    long cash = Math.floorDiv((long) (product - due * denominator) * price, (long) denominator);
                    check.is("cash of " + account, x.cash(account), before[account] + cash);
                    sum += due;
                    paid += cash;
                }
                check.is("the HOUSE makes the sum 0", x.position(8, 1), -sum);
                check.is("the HOUSE pays it", x.cash(8), -paid);
            }
        }
    }

    // ---- margin

    private static void marginByTheWords() {
        check.part("risk, value and call by the words");
        for (int seed = 0; seed < 200; seed++) {
            Random random = new Random(seed);
            Openbook x = new Openbook();
            int[][] moves = new int[4][4];
            int haircut = 0;
            for (int call = 0; call < 60; call++) {
                int contract = random.nextInt(4);
                switch (random.nextInt(6)) {
                    case 0:
                        int scenario = random.nextInt(4);
                        moves[scenario][contract] = random.nextInt(199) - 99;
                        x.setMove(scenario, contract, moves[scenario][contract]);
                        break;
                    case 1:
                        haircut = random.nextInt(101);
                        x.setHaircut(haircut);
                        break;
                    case 2:
                        x.pay(random.nextInt(4), random.nextInt(500), random.nextInt(20));
                        break;
                    default:
                        int buyer = random.nextInt(8);
                        deal(x, random.nextInt(6), buyer, (buyer + 1 + random.nextInt(7)) % 8, 20 + random.nextInt(99),
                                1 + random.nextInt(40));
                        break;
                }
                margin(x, random.nextInt(4), moves, haircut);
            }
        }
    }

    private static void margin(Openbook x, int member, int[][] moves, int haircut) {
        long units = x.member(member, UNITS);
        long risk = 0;
        for (int[] row : moves) {
            long loss = -units * row[1];
            for (int contract = 0; contract < 4; contract++) {
                loss -= net(x, member, contract) * row[contract];
            }
            risk = Math.max(risk, loss);
        }
        long value = x.cash(2 * member) + x.cash(2 * member + 1);
        for (int contract = 0; contract < 4; contract++) {
            long net = net(x, member, contract);
            risk += 5 * Math.max(0, Math.abs(net) - 30);
            value += net * x.last(contract, false);
        }
        long worth = units * x.last(1, false) * (100 - haircut) / 100;
        check.is("risk", x.member(member, RISK), risk);
        check.is("value", x.member(member, VALUE), value);
        check.is("call", x.member(member, CALL), Math.max(0, risk - value - x.member(member, MONEY) - worth));
        check.is("pay tells it", x.pay(member, 0, 0), (int) x.member(member, CALL));
    }

    private static long net(Openbook x, int member, int contract) {
        return x.position(2 * member, contract) + x.position(2 * member + 1, contract);
    }

    private static void aboveThirty() {
        check.part("5 for each one by which a net, without sign, is above 30");
        for (int contract = 0; contract < 4; contract++) {
            for (int lots = 29; lots <= 33; lots++) {
                Openbook x = new Openbook();
                deal(x, contract, 0, 2, 100, lots - 3);
                deal(x, contract, 1, 3, 100, 3);
                check.is("bought " + lots, x.member(0, RISK), 5 * Math.max(0, lots - 30));
                check.is("sold " + lots, x.member(1, RISK), 5 * Math.max(0, lots - 30));
            }
        }
        Openbook x = new Openbook();
        deal(x, 0, 0, 1, 100, 50);
        check.is("both accounts of a member come to 0", x.member(0, RISK), 0);
        deal(x, 4, 0, 2, 0, 31);
        check.is("in both contracts of a spread", x.member(0, RISK), 10);
    }

    private static void paidOut() {
        check.part("there would be less than 0 of one");
        Openbook x = new Openbook();
        x.pay(0, 9999, 1);
        check.state("units, with money that is enough", x, () -> x.pay(0, 0, -2));
        check.state("units, with money that comes in", x, () -> x.pay(0, 9999, -2));
        check.is("all units", x.pay(0, 0, -1), 0);
        check.state("one unit of none", x, () -> x.pay(0, 0, -1));
        Openbook y = new Openbook();
        y.pay(0, 1, 99);
        check.state("money, with units that are enough", y, () -> y.pay(0, -2, 0));
        check.state("money, with units that come in", y, () -> y.pay(0, -2, 99));
        check.is("all money", y.pay(0, -1, 0), 0);
        check.state("money of none", y, () -> y.pay(0, -1, 0));
        check.part("or one of both is below 0, and the call would be above 0");
        Openbook z = new Openbook();
        z.pay(0, 50, 5);
        deal(z, 0, 0, 2, 200, 10);
        deal(z, 0, 4, 6, 100, 1);
        check.is("call", z.member(0, CALL), 1000 - 50 - 500);
        check.state("1 out", z, () -> z.pay(0, -1, 0));
        check.state("a unit out", z, () -> z.pay(0, 0, -1));
        check.state("1 out, units in", z, () -> z.pay(0, -1, 4));
        check.state("a unit out, money in", z, () -> z.pay(0, 549, -1));
        check.is("in, with a call", z.pay(0, 1, 0), 449);
        check.is("none of both", z.pay(0, 0, 0), 449);
        check.is("to a call of 0", z.pay(0, 549, -1), 0);
        check.is("1 more than is needed", z.pay(0, 1, 0), 0);
        check.is("and out again", z.pay(0, -1, 0), 0);
        check.state("a call of 1", z, () -> z.pay(0, -1, 0));
        check.is("nothing changed by that", z.member(0, MONEY), 600);
        check.part("the call with what is left then");
        Openbook w = new Openbook();
        w.setMove(0, 1, -10);
        w.pay(0, 0, 10);
        check.is("units lose, too", w.member(0, RISK), 100);
        check.is("all of them out", w.pay(0, 0, -10), 0);
        w.setHaircut(100);
        check.is("in", w.pay(0, 0, 10), 100);
        check.state("one out leaves a call", w, () -> w.pay(0, 0, -1));
        check.is("all out leaves none", w.pay(0, 0, -10), 0);
    }

    // ---- defaults

    private static void failsTwice() {
        check.part("it has failed, also if there is a call again when it is closed out");
        Openbook x = new Openbook();
        deal(x, 0, 0, 2, 200, 20);
        deal(x, 0, 4, 6, 100, 1);
        check.is("fails", x.fail(0), 0);
        check.is("closed out", x.closeOut() > 0 ? 1 : 0, 1);
        deal(x, 1, 4, 6, 500, 40);
        deal(x, 1, 5, 7, 100, 1);
        x.giveUp(2, true, 0);
        check.is("a call again", x.member(0, CALL) > 0 ? 1 : 0, 1);
        check.state("it has failed", x, () -> x.fail(0));
        check.is("has failed", x.member(0, FAILED), 1);
    }

    /** Member 0 has lost so many that it lacks the loss, when member 1 bids 3000 for its 10 of contract 0. */
    private static Openbook lossOf(int loss, int money, int units) {
        Openbook x = new Openbook();
        deal(x, 0, 0, 6, 900, 10);
        deal(x, 0, 4, 7, 300, 1);
        x.pay(0, money, units);
        x.setMove(0, 0, -99);
        x.fail(0);
        x.bid(1, 9000 - loss);
        return x;
    }

    private static void eachLayerToTheLot() {
        check.part("the loss is covered, layer by layer, as far as these go");
        // Money 100, one unit of 100, funds of 200, the stake of 500, two juniors, the bidder, assessments of 600.
        int[] ends = {0, 100, 200, 400, 900, 1300, 1500, 2100};
        for (int loss = 0; loss <= 2200; loss++) {
            if (loss % 100 > 1 && loss % 100 < 99 && loss % 37 != 0) {
                continue;
            }
            Openbook x = lossOf(loss, 100, 1);
            long[] cash = new long[9];
            for (int account = 0; account < 9; account++) {
                cash[account] = x.cash(account);
            }
            int layer = 0;
            while (layer < 8 && loss > ends[layer]) {
                layer++;
            }
            check.is("layer for " + loss, x.closeOut(), layer);
            check.is("money", x.member(0, MONEY), 100 - part(loss, 0, 100));
            check.is("units", x.member(0, UNITS), loss > 100 ? 0 : 1);
            check.is("what comes above the loss", x.cash(0), loss > 100 && loss < 200 ? 200 - loss : 0);
            check.is("the other account", x.cash(1), 0);
            check.is("fund", x.member(0, FUND), 200 - part(loss, 200, 400));
            check.is("stake", x.stake(), 500 - part(loss, 400, 900));
            int juniors = part(loss, 900, 1300);
            check.is("first junior", x.member(2, FUND), 200 - (juniors + 1) / 2);
            check.is("second junior", x.member(3, FUND), 200 - juniors / 2);
            check.is("the bidder", x.member(1, FUND), 200 - part(loss, 1300, 1500));
            int assessed = part(loss, 1500, 2100);
            check.is("assessed, with its bid", x.cash(2), cash[2] - (9000 - loss) - (assessed + 2) / 3);
            check.is("assessed", x.cash(4), cash[4] - (assessed + 1) / 3);
            check.is("assessed", x.cash(6), cash[6] - assessed / 3);
            check.is("not the upper accounts", x.cash(3) + x.cash(5) + x.cash(7), cash[3] + cash[5] + cash[7]);
            check.is("the HOUSE", x.cash(8), -(loss > 100 ? 100 : 0) - Math.max(0, loss - 2100));
        }
    }

    private static void layersThatAreEmpty() {
        check.part("a layer that has nothing is passed over");
        Openbook x = new Openbook();
        deal(x, 0, 0, 6, 900, 10);
        deal(x, 0, 4, 7, 300, 1);
        x.setFund(0, 0);
        x.pay(0, 0, 3);
        x.fail(0);
        x.bid(1, 9000 - 201);
        check.is("units, without a fund", x.closeOut(), 2);
        check.is("three of 100", x.member(0, UNITS), 0);
        check.is("what comes above", x.cash(0), 99);
        check.is("the HOUSE pays for all three", x.cash(8), -300);
        int[][] rows = {{0, 0}, {1, 3}, {200, 3}, {201, 4}, {700, 4}, {701, 5}, {1100, 5}, {1101, 6}, {1300, 6}, {1301, 7}};
        for (int[] row : rows) {
            check.is("without money and units, " + row[0], lossOf(row[0], 0, 0).closeOut(), row[1]);
        }
        Openbook z = lossOf(701, 0, 0);
        for (int member = 1; member < 4; member++) {
            z.setFund(member, 0);
        }
        check.is("without any funds", z.closeOut(), 8);
        check.is("the HOUSE", z.cash(8), -1);
        check.is("the stake", z.stake(), 0);
        deal(z, 2, 4, 6, 500, 50);
        deal(z, 2, 5, 7, 100, 1);
        z.setFund(2, 0);
        z.fail(2);
        z.bid(3, 5000);
        check.is("with the stake gone", z.closeOut(), 8);
    }

    /** How much of a loss lies between two ends. */
    private static int part(int loss, int from, int to) {
        return Math.max(0, Math.min(loss, to) - from);
    }

    private static void juniorsByTheBid() {
        check.part("less than the highest bid by more than 100");
        for (int less = 99; less <= 102; less++) {
            Openbook x = lossOf(950, 100, 1);
            x.bid(2, 9000 - 950 - less);
            x.bid(3, 9000 - 950);
            // 50 come from the juniors, or from the others without any.
            check.is("layer, less by " + less, x.closeOut(), less > 100 ? 5 : 6);
            check.is("its fund", x.member(2, FUND), less > 100 ? 150 : 200 - 17);
            check.is("the fund of who bids most", x.member(1, FUND), less > 100 ? 200 : 200 - 17);
            check.is("the fund of who bids as much", x.member(3, FUND), less > 100 ? 200 : 200 - 16);
        }
        check.part("have bid nothing; a bid of 0, and one below 0, is a bid");
        Openbook x = lossOf(950, 100, 1);
        x.bid(1, -50);
        x.bid(2, -150);
        x.bid(3, -151);
        x.closeOut();
        check.is("who bid most", x.member(1, FUND), 0);
        check.is("all funds are gone", x.member(2, FUND) + x.member(3, FUND), 0);
        check.is("has the portfolio", x.position(2, 0), 10);
    }

    private static void sharedByTheWords() {
        check.part("each as much as the loss times its part, divided by all parts together, rounded down; then one each");
        Random random = new Random(5);
        for (int round = 0; round < 500; round++) {
            int[] funds = {0, random.nextInt(12), random.nextInt(12), random.nextInt(12)};
            int loss = random.nextInt(40);
            Openbook x = lossOf(900 + loss, 100, 1);
            for (int member = 1; member < 4; member++) {
                x.setFund(member, funds[member]);
                x.bid(member, 9000 - 900 - loss);
            }
            long[] cash = {0, x.cash(2), x.cash(4), x.cash(6)};
            int[] given = shared(loss, funds);
            int left = loss - given[1] - given[2] - given[3];
            int[] assessed = shared(left, funds);
            left -= assessed[1] + assessed[2] + assessed[3];
            int all = funds[1] + funds[2] + funds[3];
            int layer = loss == 0 ? 4 : all == 0 ? 8 : loss <= all ? 6 : loss <= 2 * all ? 7 : 8;
            check.is("layer of round " + round, x.closeOut(), layer);
            for (int member = 1; member < 4; member++) {
                check.is("fund", x.member(member, FUND), funds[member] - given[member]);
                long paid = member == 1 ? 9000 - 900 - loss : 0;
                check.is("cash", x.cash(2 * member), cash[member] - paid - assessed[member]);
            }
            check.is("the HOUSE", x.cash(8), -100 - left);
        }
    }

    private static int[] shared(int loss, int[] parts) {
        int all = parts[1] + parts[2] + parts[3];
        int[] given = new int[4];
        if (loss >= all) {
            return parts.clone();
        }
        int left = loss;
        for (int member = 1; member < 4; member++) {
            given[member] = loss * parts[member] / all;
            left -= given[member];
        }
        while (left > 0) {
            for (int member = 1; member < 4; member++) {
                if (left > 0 && given[member] < parts[member]) {
                    given[member]++;
                    left--;
                }
            }
        }
        return given;
    }

    private static void bidsTie() {
        check.part("who bids most, of several the lowest member");
        for (int row = 0; row < 27; row++) {
            int[] bids = {NONE, row % 3 - 1, row / 3 % 3 - 1, row / 9 - 1};
            Openbook x = new Openbook();
            deal(x, 0, 0, 6, 900, 10);
            deal(x, 0, 4, 7, 300, 1);
            x.fail(0);
            int due = 1;
            for (int member = 3; member >= 1; member--) {
                x.bid(member, bids[member]);
            }
            for (int member = 2; member < 4; member++) {
                due = bids[member] > bids[due] ? member : due;
            }
            int before = x.position(2 * due, 0);
            x.closeOut();
            check.is("row " + row, x.position(2 * due, 0), before + 10);
        }
        check.part("a bid in place of one before counts, also if it is less");
        Openbook x = new Openbook();
        deal(x, 0, 0, 6, 900, 10);
        deal(x, 0, 4, 7, 300, 1);
        x.fail(0);
        x.bid(1, 9999);
        check.is("two", x.bid(2, 10), 2);
        check.is("two yet", x.bid(1, 9), 2);
        x.closeOut();
        check.is("has it", x.position(4, 0), 11);
        check.is("has nothing", x.position(2, 0), 0);
    }

    private static void amountsBelowNull() {
        check.part("pays the amount from there (gets it, if it is below 0)");
        Openbook x = new Openbook();
        deal(x, 0, 6, 0, 100, 10);
        deal(x, 0, 4, 7, 300, 1);
        x.fail(0);
        x.bid(1, -2500);
        // 1000 less 2500: 1500 are lost, of which 1300 are in funds and the stake.
        check.is("layer", x.closeOut(), 7);
        check.is("who gets it", x.cash(2), 2500 - 67);
        check.is("its position", x.position(2, 0), -10);
        check.is("assessed", x.cash(4), -300 - 67);
        check.is("assessed", x.cash(6), -1000 - 66);
        check.is("the one that failed", x.cash(0), 0);
        check.part("without bids the HOUSE does, for what they are worth at the last prices");
        for (int side = 1; side >= -1; side -= 2) {
            Openbook y = new Openbook();
            deal(y, 0, side > 0 ? 0 : 6, side > 0 ? 6 : 0, 200 - 50 * side, 10);
            deal(y, 0, side > 0 ? 1 : 7, side > 0 ? 7 : 1, 200 - 50 * side, 5);
            deal(y, 2, side > 0 ? 6 : 1, side > 0 ? 1 : 6, 40, 3);
            deal(y, 0, 4, 5, 200, 1);
            y.setMove(0, 0, -99 * side);
            y.fail(0);
            check.is("no loss", y.closeOut(), 0);
            check.is("the HOUSE pays", y.cash(8), side * (-15 * 200 + 3 * 40));
            check.is("it has the nets", y.position(8, 0), 15 * side);
            check.is("it has the nets", y.position(8, 2), -3 * side);
            check.is("what is left stays", y.cash(0), 15 * 50);
            check.is("no positions are left in both", y.position(0, 0) + y.position(1, 0) + y.position(1, 2), 0);
            check.is("the other one has 0", y.cash(1), 0);
        }
    }

    // ---- the log

    private static void logOfAllCalls() {
        check.part("all calls that can change something and do not throw are events, also if nothing is another one then");
        Openbook x = new Openbook();
        int[] before = {0};
        deal(x, 0, 0, 2, 200, 40);
        deal(x, 3, 0, 2, 100, 5);
        deal(x, 0, 4, 6, 100, 1);
        before[0] = x.events();
        check.is("limits", before[0], 6);
        event(x, before, "limit", x.limit(4, 0, 50, 1, 0, 0));
        event(x, before, "limit that is gone for its least", x.limit(4, 1, 50, 1, 1, 0));
        event(x, before, "market", x.market(4, 1, 1));
        event(x, before, "iceberg", x.iceberg(4, 1, 50, 2, 1));
        event(x, before, "peg", x.peg(4, 1, 50, 2, 1));
        event(x, before, "stop", x.stop(4, 1, 900, 0, 2));
        event(x, before, "quote", x.quote(4, 2, 50, 60, 2));
        event(x, before, "cancel", x.cancel(6));
        event(x, before, "setRule", x.setRule(0, 0, 0, 0));
        event(x, before, "setBand", x.setBand(0, 0));
        event(x, before, "setProtection", x.setProtection(0, 0));
        event(x, before, "setLimit", x.setLimit(0, 0, 999));
        event(x, before, "auction", x.auction(3, 1, 0, 0));
        event(x, before, "pass", x.pass(20));
        event(x, before, "adjust", x.adjust(0, 200));
        event(x, before, "giveUp", x.giveUp(2, false, 3));
        event(x, before, "allot", x.allot(0, 1, 0, 1));
        event(x, before, "exercise", x.exercise(0, 1, 0));
        event(x, before, "bust", x.bust(2));
        event(x, before, "convert", x.convert(2, 1, 1));
        event(x, before, "setMove", x.setMove(0, 0, 0));
        event(x, before, "setHaircut", x.setHaircut(0));
        event(x, before, "pay", x.pay(0, 0, 0));
        event(x, before, "setFund", x.setFund(0, 200));
        event(x, before, "endDay", x.endDay());
        event(x, before, "fail", x.fail(0));
        event(x, before, "bid", x.bid(1, 0));
        event(x, before, "closeOut", x.closeOut());
        x.keep();
        x.failOver();
        check.is("keep and failOver are none", x.events(), before[0]);
        View.of(x);
        x.positionByLog(0, 0);
        x.bestByLog(0, true);
        check.is("what is asked is none", x.events(), before[0]);
    }

    private static void event(Openbook x, int[] before, String what, int answer) {
        before[0]++;
        check.is("events behind " + what + ", which answered " + answer, x.events(), before[0]);
    }

    private static void logThatIsFull() {
        check.part("an object is used for at most 512 calls: all of them may be events");
        Openbook x = new Openbook();
        for (int call = 0; call < 511; call++) {
            check.is("band before", x.setBand(0, call + 1), call);
        }
        check.is("the 512th call", x.setBand(0, 0), 511);
        Openbook y = new Openbook();
        for (int call = 0; call < 511; call++) {
            check.is("number", y.market(call % 8, call % 6, 1), call);
        }
        check.is("the 512th order", y.market(0, 0, 1), 511);
        Openbook z = new Openbook();
        for (int call = 0; call < 511; call++) {
            check.is("number", z.quote(0, 0, 90, 110, 1), 2 * call);
        }
        check.is("the 512th quote", z.quote(0, 0, 90, 110, 1), 1022);
        Openbook u = new Openbook();
        for (int call = 0; call < 511; call++) {
            u.pass(20);
        }
        check.is("the 512th pass", u.pass(20), 512 * 20);
        Openbook v = new Openbook();
        for (int call = 0; call < 511; call++) {
            v.market(0, 0, 1);
        }
        check.is("511 events", v.events(), 511);
        Openbook w = new Openbook();
        for (int call = 0; call < 510; call++) {
            w.setBand(0, call);
        }
        check.is("kept", w.keep(), 510);
        check.is("none is lost", w.failOver(), 0);
        Openbook s = new Openbook();
        for (int call = 0; call < 511; call++) {
            s.setBand(0, call);
        }
        check.is("all are lost", s.failOver(), 511);
        Openbook t = new Openbook();
        for (int call = 0; call < 255; call++) {
            t.limit(0, 0, 100, -1, 0, 0);
            t.limit(2, 0, 100, 1, 0, 0);
        }
        t.limit(4, 0, 100, -1, 0, 0);
        check.is("found from a long log", t.positionByLog(2, 0), 255);
    }

    private static void failOverToWhatIsKept() {
        check.part("when the sequencer fails over, all is as if only those kept had been made");
        for (int kept = 0; kept <= 8; kept++) {
            Openbook x = new Openbook();
            for (int call = 0; call < 8; call++) {
                if (call == kept) {
                    check.is("kept", x.keep(), kept);
                }
                change(x, call);
            }
            if (kept == 8) {
                check.is("all of them", x.keep(), 8);
            }
            check.is("lost", x.failOver(), 8 - kept);
            Openbook y = new Openbook();
            for (int call = 0; call < kept; call++) {
                change(y, call);
            }
            check.same("with " + kept + " kept", View.of(x), View.of(y));
            check.is("events", x.events(), kept);
            check.is("what was kept stays so", x.keep(), kept);
            for (int call = kept; call < 8; call++) {
                change(x, call);
                change(y, call);
                check.same("goes on the same", View.of(x), View.of(y));
            }
            check.is("lost again", x.failOver(), 8 - kept);
        }
    }

    private static void change(Openbook x, int call) {
        switch (call) {
            case 0: x.limit(0, 0, 101, -5, 0, 3); break;
            case 1: x.peg(2, 0, 50, 2, 1); break;
            case 2: x.iceberg(4, 0, 99, 9, 2); break;
            case 3: x.limit(6, 0, 101, 2, 0, 0); break;
            case 4: x.auction(0, 3, 1, 0); break;
            case 5: x.market(6, 0, 1); break;
            case 6: x.pass(3); break;
            default: x.endDay(); break;
        }
    }
}
