/** All that can be asked of an exchange, as one text. */
final class View {
    private static final int ORDERS = 700;

    private View() {
    }

    static String of(Openbook x) {
        StringBuilder text = new StringBuilder();
        books(x, text);
        orders(x, text);
        accounts(x, text);
        trades(x, text);
        return text.append(" events ").append(x.events()).toString();
    }

    private static void books(Openbook x, StringBuilder text) {
        for (int book = 0; book < 6; book++) {
            text.append(" book ").append(book);
            put(text, x.best(book, true));
            put(text, x.best(book, false));
            put(text, x.last(book, false));
            put(text, x.last(book, true));
            put(text, x.endOf(book));
            put(text, x.indicated(book, false));
            put(text, x.indicated(book, true));
            put(text, x.shown(book, true, x.best(book, true)));
            put(text, x.shown(book, false, x.best(book, false)));
        }
    }

    private static void orders(Openbook x, StringBuilder text) {
        for (int order = 0; order < ORDERS; order++) {
            if (x.stateOf(order) != Openbook.GONE) {
                text.append(" order ").append(order);
                put(text, x.stateOf(order));
                put(text, x.rest(order));
                put(text, x.priceOf(order));
            }
        }
    }

    private static void accounts(Openbook x, StringBuilder text) {
        for (int account = 0; account < 9; account++) {
            text.append(" account ").append(account);
            for (int contract = 0; contract < 4; contract++) {
                put(text, x.position(account, contract));
            }
            put(text, x.cash(account));
            put(text, account < 8 ? x.quoted(account) : 0);
        }
        for (int member = 0; member < 4; member++) {
            text.append(" member ").append(member);
            for (int what = 0; what < 7; what++) {
                put(text, x.member(member, what));
            }
        }
        text.append(" stake ").append(x.stake());
    }

    private static void trades(Openbook x, StringBuilder text) {
        int count = x.trades();
        text.append(" trades ").append(count);
        for (int trade = Math.max(0, count - 60); trade < count; trade++) {
            if (isKept(x, trade)) {
                text.append(" trade ").append(trade);
                for (int what = 0; what < 6; what++) {
                    put(text, x.trade(trade, what));
                }
            }
        }
    }

    static boolean isKept(Openbook x, int trade) {
        try {
            x.trade(trade, 0);
            return true;
        } catch (IndexOutOfBoundsException e) {
            return false;
        }
    }

    private static void put(StringBuilder text, long value) {
        text.append(' ').append(value);
    }
}
