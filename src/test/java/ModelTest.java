import java.lang.reflect.InvocationTargetException;
import java.lang.reflect.Method;
import java.lang.reflect.Modifier;
import java.util.Arrays;
import java.util.HashMap;
import java.util.Map;
import java.util.Random;

/** Random runs of calls on the class and on a model of the document: each answer, and all that can be asked, is the same. */
public final class ModelTest {
    private static final int RUNS = 200;
    private static final int CALLS = 400;
    private static final int NONE = Openbook.NONE;
    private static final Check check = new Check("ModelTest");

    // How often each call comes, and what its arguments are: account, book, contract, price, quantity, trade, member and
    // so on; a digit is a number from 0 to it.
    private static final String[][] CALL_ROWS = {
        {"limit", "14", "a", "b", "p", "q", "e", "l"}, {"market", "3", "a", "b", "q"}, {"iceberg", "5", "a", "b", "p", "q", "e"},
        {"peg", "4", "a", "b", "p", "q", "3"}, {"stop", "4", "a", "c", "p", "s", "q"}, {"quote", "6", "a", "b", "p", "k", "z"},
        {"cancel", "3", "o"}, {"setRule", "1", "b", "2", "5", "2"}, {"setBand", "1", "b", "w"}, {"setProtection", "1", "a", "9"},
        {"setLimit", "1", "a", "c", "m"}, {"auction", "2", "b", "4", "2", "1"}, {"pass", "4", "3"}, {"endDay", "1"},
        {"bust", "2", "t"}, {"adjust", "1", "t", "p"}, {"giveUp", "1", "t", "f", "a"}, {"allot", "1", "a", "a", "c", "q"},
        {"exercise", "1", "h", "4", "d"}, {"convert", "1", "c", "3", "3"}, {"setMove", "1", "3", "c", "v"},
        {"setHaircut", "1", "d"}, {"pay", "2", "n", "q", "3"}, {"setFund", "1", "n", "9"}, {"fail", "1", "n"},
        {"bid", "2", "n", "v"}, {"closeOut", "1"}, {"keep", "1"}, {"failOver", "1"}};

    private final Map<String, Method> calls = new HashMap<>();
    private final Map<String, Method> models = new HashMap<>();
    private final Openbook x = new Openbook();
    private final Model model = new Model();
    private final Random random;
    // A run keeps to few books, and to prices as near as this, so that much meets.
    private final int[] books;
    private final int width;
    private final int edge;
    // All that comes behind a wrong answer is wrong, too: the first few tell enough.
    private int wrong;

    private ModelTest(int seed) throws ReflectiveOperationException {
        random = new Random(seed);
        int[][] sets = {{0, 1, 2, 3, 4, 5}, {0, 1, 4}, {0, 1, 2, 4, 5}, {0}, {0, 3}, {1, 2, 5}};
        books = sets[random.nextInt(sets.length)];
        width = 1 + random.nextInt(8);
        edge = random.nextInt(12) == 0 ? 4 : 60;
        for (Method method : Openbook.class.getDeclaredMethods()) {
            if (Modifier.isPublic(method.getModifiers())) {
                calls.put(method.getName(), method);
                models.put(method.getName(), modelOf(method));
            }
        }
    }

    /** The model finds nothing from its log: there the same is due as is there. */
    private static Method modelOf(Method method) throws ReflectiveOperationException {
        String name = method.getName().replace("ByLog", "");
        return Model.class.getDeclaredMethod(name, method.getParameterTypes());
    }

    /** Takes the first seed and how many runs there are, for longer ones than these. */
    public static void main(String[] args) throws ReflectiveOperationException {
        int first = args.length > 0 ? Integer.parseInt(args[0]) : 0;
        int runs = args.length > 1 ? Integer.parseInt(args[1]) : RUNS;
        for (int seed = first; seed < first + runs; seed++) {
            check.part("run " + seed);
            new ModelTest(seed).run();
        }
        check.end();
    }

    private void run() {
        int all = 0;
        for (String[] row : CALL_ROWS) {
            all += Integer.parseInt(row[1]);
        }
        for (int call = 0; call < CALLS && wrong == 0; call++) {
            int at = random.nextInt(all);
            String[] row = null;
            for (int k = 0; at >= 0; k++) {
                row = CALL_ROWS[k];
                at -= Integer.parseInt(row[1]);
            }
            Object[] arguments = new Object[row.length - 2];
            for (int k = 0; k < arguments.length; k++) {
                arguments[k] = argument(row[k + 2].charAt(0), arguments, k);
            }
            same(row[0], arguments);
            if (call % 25 == 0 || row[0].equals("failOver") || row[0].equals("closeOut")) {
                sameAll();
            } else {
                sameSome();
            }
        }
        same("failOver");
        sameAll();
    }

    private Object argument(char kind, Object[] before, int place) {
        if (kind != 'f' && random.nextInt(edge) == 0) {
            int[] edges = {-1, 0, 1, 3, 4, 5, 6, 7, 8, 9, 50, 51, -50, -51, 99, 100, 999, 1000, 9999, 10000, -9999, -10000,
                    NONE, NONE + 1, Integer.MAX_VALUE, Integer.MIN_VALUE};
            return edges[random.nextInt(edges.length)];
        }
        switch (kind) {
            case 'a': return random.nextInt(8);
            case 'h': return random.nextInt(9);
            case 'b': return books[random.nextInt(books.length)];
            case 'c': return random.nextInt(4) == 0 ? random.nextInt(4) : books[random.nextInt(books.length)] % 4;
            case 'n': return random.nextInt(4);
            case 'p': return price(place > 1 && before[1] instanceof Integer book ? book : 0);
            case 's': return random.nextInt(3) == 0 ? 0 : price(0);
            case 'k': return before[2] instanceof Integer bid ? bid + 1 + random.nextInt(2 * width) : 0;
            case 'q': return (random.nextInt(9) == 0 ? 1 + random.nextInt(50) : 1 + random.nextInt(7)) * (random.nextBoolean() ? 1 : -1);
            case 'z': return 1 + random.nextInt(9);
            case 'e': return random.nextInt(3);
            case 'l': return random.nextInt(3) == 0 ? NONE : random.nextInt(3);
            case 'o': return Math.max(0, model.events() - random.nextInt(40));
            case 't': return model.trades() - 1 - random.nextInt(random.nextBoolean() ? 3 : 20);
            case 'f': return random.nextBoolean();
            case 'w': return random.nextBoolean() ? 0 : 1 + random.nextInt(2 * width);
            case 'm': return random.nextInt(3) == 0 ? random.nextInt(30) : 999;
            case 'd': return random.nextInt(101);
            case 'v': return random.nextInt(199) - 99;
            default: return random.nextInt(kind - '0' + 1);
        }
    }

    private int price(int book) {
        return (book < 4 ? 100 : 0) + random.nextInt(2 * width + 1) - width;
    }

    // ---- both are asked

    private static Object answer(Method method, Object on, Object[] arguments) {
        try {
            return method.invoke(on, arguments);
        } catch (InvocationTargetException e) {
            return e.getCause().getClass();
        } catch (IllegalAccessException e) {
            throw new AssertionError(e);
        }
    }

    private void same(String name, Object... arguments) {
        Object got = answer(calls.get(name), x, arguments);
        Object due = answer(models.get(name), model, arguments);
        if (got.equals(due)) {
            check.is(name, 0, 0);
        } else if (wrong++ < 3) {
            check.same(name + Arrays.toString(arguments), got.toString(), due.toString());
        }
    }

    private void sameSome() {
        int book = books[random.nextInt(books.length)];
        sameBook(book);
        same("trades");
        int account = random.nextInt(9);
        same("cash", account);
        same("position", account, random.nextInt(4));
        same("positionByLog", account, random.nextInt(4));
        same("bestByLog", book, random.nextBoolean());
        same("member", random.nextInt(4), random.nextInt(7));
    }

    private void sameBook(int book) {
        for (int side = 0; side < 2; side++) {
            same("best", book, side == 0);
            same("last", book, side == 0);
            same("indicated", book, side == 0);
            for (int price = -width; price <= width; price++) {
                same("shown", book, side == 0, (book < 4 ? 100 : 0) + price);
            }
        }
        same("endOf", book);
    }

    private void sameAll() {
        for (int book = 0; book < 6; book++) {
            sameBook(book);
        }
        for (int order = 0; order < 2 * CALLS; order++) {
            same("stateOf", order);
            if (x.stateOf(order) != Openbook.GONE) {
                same("rest", order);
                same("priceOf", order);
            }
        }
        for (int account = 0; account < 9; account++) {
            for (int contract = 0; contract < 4; contract++) {
                same("position", account, contract);
                same("positionByLog", account, contract);
            }
            same("cash", account);
            same("quoted", account);
        }
        for (int member = 0; member < 4; member++) {
            for (int what = 0; what < 7; what++) {
                same("member", member, what);
            }
        }
        int count = x.trades();
        for (int trade = count - 61; trade <= count; trade++) {
            for (int what = 0; what < 6; what++) {
                same("trade", trade, what);
            }
        }
        same("trades");
        same("events");
        same("stake");
    }
}
