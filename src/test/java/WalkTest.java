import java.util.Random;

/** Random walks over all calls: what must hold whatever is called. */
public final class WalkTest {
    private static final int WALKS = 150;
    private static final int CALLS = 400;
    private static final Check check = new Check("WalkTest");

    private final Openbook x = new Openbook();
    private final Random random;
    private int told;
    private String kept = View.of(x);
    private int keptEvents;

    private WalkTest(int seed) {
        random = new Random(seed);
    }

    public static void main(String[] args) {
        for (int seed = 0; seed < WALKS; seed++) {
            check.part("walk " + seed);
            new WalkTest(seed).walk(seed % 10 == 0);
        }
        check.end();
    }

    private void walk(boolean isWild) {
        for (int call = 0; call < CALLS; call++) {
            int events = x.events();
            String before = View.of(x);
            try {
                if (isWild) {
                    callWildly();
                } else {
                    callMildly();
                }
            } catch (IllegalArgumentException | IllegalStateException e) {
                check.same("a call that throws changes nothing", View.of(x), before);
            } catch (RuntimeException e) {
                check.is("only these are thrown: " + e, e.getClass() == IndexOutOfBoundsException.class ? 1 : 0, 1);
                check.same("a call that throws changes nothing", View.of(x), before);
            }
            check.is("events do not fall", x.events() >= events || x.events() == keptEvents ? 1 : 0, 1);
            holds();
        }
        x.failOver();
        check.same("made again from the log", View.of(x), kept);
    }

    private void holds() {
        for (int contract = 0; contract < 4; contract++) {
            long sum = 0;
            for (int account = 0; account < 9; account++) {
                sum += x.position(account, contract);
            }
            check.is("positions come to 0", sum, 0);
        }
        int account = random.nextInt(9);
        int contract = random.nextInt(4);
        check.is("position by log", x.positionByLog(account, contract), x.position(account, contract));
        int book = random.nextInt(6);
        check.is("best by log", x.bestByLog(book, account < 4), x.best(book, account < 4));
    }

    private int one(int... of) {
        return of[random.nextInt(of.length)];
    }

    private int wild() {
        return random.nextInt(3) == 0 ? random.nextInt() : one(-1, 0, 1, 2, 3, 4, 5, 7, 8, 50, 51, 99, 100, 101, 9999,
                10000, -9999, Openbook.NONE, Integer.MAX_VALUE, Integer.MIN_VALUE);
    }

    private int price(int book) {
        return book < 4 ? 94 + random.nextInt(13) : random.nextInt(11) - 5;
    }

    private int lots() {
        int lots = one(1, 2, 3, 4, 5, 9, 20);
        return random.nextBoolean() ? lots : -lots;
    }

    private void callMildly() {
        int account = random.nextInt(8);
        int book = random.nextInt(6);
        int lots = lots();
        int size = Math.abs(lots);
        int member = random.nextInt(4);
        int trade = Math.max(0, x.trades() - 1 - random.nextInt(9));
        switch (random.nextInt(44)) {
            case 0: case 1: case 2: case 3: case 4: case 5: case 6: case 7:
                told = x.limit(account, book, price(book), lots, one(0, 0, 0, 1), one(0, 0, 1, Openbook.NONE));
                break;
            case 8: case 9: told = x.market(account, book, lots); break;
            case 10: case 11: case 12: told = x.iceberg(account, book, price(book), lots, one(1, size)); break;
            case 13: case 14: told = x.peg(account, book, price(book), lots, one(0, 1, 2, 9)); break;
            case 15: case 16: told = x.stop(account, book % 4, price(0), one(0, price(0)), lots); break;
            case 17: case 18: case 19: told = x.quote(account, book, price(book) - 3, price(book) + 3, size); break;
            case 20: case 21: x.cancel(told - random.nextInt(9)); break;
            case 22: x.setRule(book, random.nextInt(3), one(0, 2, 50), random.nextInt(3)); break;
            case 23: x.setBand(book, one(0, 0, 2, 5)); break;
            case 24: x.setProtection(account, one(0, 1, 5, 9)); break;
            case 25: x.setLimit(account, book % 4, one(999, 50)); break;
            case 26: x.auction(book, one(1, 3), one(0, 1), one(0, 1)); break;
            case 27: case 28: case 29: x.pass(one(1, 2, 5)); break;
            case 30: x.endDay(); break;
            case 31: x.bust(trade); break;
            case 32: x.adjust(trade, price(0)); break;
            case 33: x.giveUp(trade, lots > 0, account); break;
            case 34: x.allot(account, random.nextInt(8), book % 4, lots); break;
            case 35: x.exercise(account, size, random.nextInt(7875)); break;
            case 36: x.convert(book % 3, one(1, 2, 3), one(1, 2, 3)); break;
            case 37: x.setMove(member, book % 4, random.nextInt(199) - 99); break;
            case 38: x.pay(member, one(-9, 9, 99), one(-1, 0, 1)); break;
            case 39: x.setFund(member, one(0, 7, 99)); break;
            case 40: x.fail(member); break;
            case 41: x.bid(member, random.nextInt(400) - 200); break;
            case 42: x.closeOut(); break;
            default: keepOrFailOver(); break;
        }
    }

    private void keepOrFailOver() {
        if (random.nextInt(4) > 0) {
            keptEvents = x.keep();
            kept = View.of(x);
        } else {
            int lost = x.events() - keptEvents;
            check.is("lost", x.failOver(), lost);
            check.same("made again from the log", View.of(x), kept);
        }
    }

    private void callWildly() {
        switch (random.nextInt(32)) {
            case 0: x.limit(wild(), wild(), wild(), wild(), wild(), wild()); break;
            case 1: x.market(wild(), wild(), wild()); break;
            case 2: x.iceberg(wild(), wild(), wild(), wild(), wild()); break;
            case 3: x.peg(wild(), wild(), wild(), wild(), wild()); break;
            case 4: x.stop(wild(), wild(), wild(), wild(), wild()); break;
            case 5: x.quote(wild(), wild(), wild(), wild(), wild()); break;
            case 6: x.cancel(wild()); break;
            case 7: x.setRule(wild(), wild(), wild(), wild()); break;
            case 8: x.setBand(wild(), wild()); break;
            case 9: x.setProtection(wild(), wild()); break;
            case 10: x.setLimit(wild(), wild(), wild()); break;
            case 11: x.auction(wild(), wild(), wild(), wild()); break;
            case 12: x.pass(wild()); break;
            case 13: x.endDay(); break;
            case 14: x.bust(wild()); break;
            case 15: x.adjust(wild(), wild()); break;
            case 16: x.giveUp(wild(), random.nextBoolean(), wild()); break;
            case 17: x.allot(wild(), wild(), wild(), wild()); break;
            case 18: x.exercise(wild(), wild(), wild()); break;
            case 19: x.convert(wild(), wild(), wild()); break;
            case 20: x.setMove(wild(), wild(), wild()); break;
            case 21: x.setHaircut(wild()); break;
            case 22: x.pay(wild(), wild(), wild()); break;
            case 23: x.setFund(wild(), wild()); break;
            case 24: x.fail(wild()); break;
            case 25: x.bid(wild(), wild()); break;
            case 26: x.closeOut(); break;
            case 27: askWildly(); break;
            default: callMildly(); break;
        }
    }

    private void askWildly() {
        x.stateOf(wild());
        switch (random.nextInt(12)) {
            case 0: x.rest(wild()); break;
            case 1: x.priceOf(wild()); break;
            case 2: x.best(wild(), true); break;
            case 3: x.shown(wild(), true, wild()); break;
            case 4: x.last(wild(), true); break;
            case 5: x.endOf(wild()); break;
            case 6: x.indicated(wild(), true); break;
            case 7: x.trade(wild(), wild()); break;
            case 8: x.position(wild(), wild()); break;
            case 9: x.cash(wild()); break;
            case 10: x.quoted(wild()); break;
            default: x.member(wild(), wild()); break;
        }
    }
}
