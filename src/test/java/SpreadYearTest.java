import java.util.Arrays;
import java.util.function.Supplier;

/** Promise 9: spreadYear. */
final class SpreadYearTest {
    private static final int COSTS = BudgetBook.COSTS;

    private SpreadYearTest() {
    }

    static void run() {
        evenSeasons();
        bySeasons();
        oneSeason();
        byFormerInEachMonth();
        aMonthThatGetsZero();
        cannotBeSpread();
        eachMonthMayRefuse();
        allWeightsZero();
        oneWeightThatIsNotZero();
        whatIsLeftByRisingMonths();
        monthsThatGetZeroAreEmptied();
        aMonthThatGetsZeroMayRefuse();
        oneMonthWithoutAFreeLeaf();
        oneMonthWithARestBelowZero();
        oneMonthWithARestOfZero();
        closedInTheVersion();
        greatestSumAndWeights();
        throwsInOrder();
    }

    private static void monthsDue(String what, BudgetBook book, int place, int... due) {
        for (int month = 0; month < 12; month++) {
            Check.due(what + ", month " + month, book.amount(1, place, COSTS, month), due[month]);
        }
    }

    private static void evenSeasons() {
        BudgetBook book = new BudgetBook();
        Check.due("changed", book.spreadYear(1, 0, 1000000), 12);
        monthsDue("1000000", book, 0, 83334, 83334, 83334, 83334, 83333, 83333, 83333, 83333,
                83333, 83333, 83333, 83333);
        Check.due("the same", book.spreadYear(1, 0, 1000000), 0);
        Check.due("other versions", book.year(0, 0, COSTS) + book.year(2, 0, COSTS), 0);
        Check.due("less than months", book.spreadYear(1, 0, 5), 12);
        monthsDue("5", book, 0, 1, 1, 1, 1, 1, 0, 0, 0, 0, 0, 0, 0);
        Check.due("0", book.spreadYear(1, 0, 0), 5);
        Check.due("0", book.filled(), 0);
    }

    private static void bySeasons() {
        BudgetBook book = new BudgetBook();
        int[] weights = {0, 100, 3, 0, 7, 0, 1, 1, 0, 0, 50, 38};
        for (int month = 0; month < 12; month++) {
            book.setSeason(month, weights[month]);
        }
        Check.due("changed", book.spreadYear(1, 0, 1003), 7);
        monthsDue("1003 by 200", book, 0, 0, 502, 16, 0, 35, 0, 5, 5, 0, 0, 250, 190);
        for (int month = 0; month < 12; month++) {
            Check.due("the weights stay", book.setSeason(month, 100), weights[month]);
        }
        Check.due("all at most", book.spreadYear(1, 0, 24), 12);
        monthsDue("all at most", book, 0, 2, 2, 2, 2, 2, 2, 2, 2, 2, 2, 2, 2);
    }

    private static void oneSeason() {
        BudgetBook book = new BudgetBook();
        for (int month = 0; month < 11; month++) {
            book.setSeason(month, 0);
        }
        Check.due("changed", book.spreadYear(1, 0, 1000000), 1);
        monthsDue("one season", book, 0, 0, 0, 0, 0, 0, 0, 0, 0, 0, 0, 0, 1000000);
    }

    private static void byFormerInEachMonth() {
        BudgetBook book = new BudgetBook();
        book.addPlace(0);
        book.addPlace(0);
        book.set(1, 1, COSTS, 0, 3);
        book.set(1, 2, COSTS, 0, 1);
        book.set(1, 2, COSTS, 1, 50);
        book.hold(1, 2, true);
        Check.due("changed", book.spreadYear(1, 0, 120), 22);
        monthsDue("leaf 1", book, 1, 8, 0, 0, 5, 5, 5, 5, 5, 5, 5, 5, 5);
        monthsDue("leaf 2", book, 2, 2, 10, 10, 5, 5, 5, 5, 5, 5, 5, 5, 5);
        book.hold(1, 2, false);
        book.handIn(1, 2);
        Check.due("beside a closed leaf", book.spreadYear(1, 1, 0), 10);
        monthsDue("leaf 1", book, 1, 0, 0, 0, 0, 0, 0, 0, 0, 0, 0, 0, 0);
        monthsDue("leaf 2", book, 2, 2, 10, 10, 5, 5, 5, 5, 5, 5, 5, 5, 5);
    }

    private static void aMonthThatGetsZero() {
        BudgetBook book = new BudgetBook();
        book.addPlace(0);
        book.addPlace(0);
        book.setSeason(6, 0);
        book.set(1, 1, COSTS, 6, 40);
        book.set(1, 2, COSTS, 6, 50);
        Check.due("it is spread too", book.spreadYear(1, 1, 110), 12);
        Check.due("it is spread too", book.amount(1, 1, COSTS, 6), 0);
        book.hold(2, 6, true);
        Check.thrown("and may refuse", Check.STATE, () -> book.spreadYear(1, 0, 110));
        book.set(1, 2, COSTS, 6, 0);
        Check.due("no more", book.spreadYear(1, 0, 110), 0);
        book.hold(1, 6, true);
        Check.thrown("no free leaf for 0", Check.STATE, () -> book.spreadYear(1, 0, 110));
    }

    private static void cannotBeSpread() {
        BudgetBook book = new BudgetBook();
        book.addPlace(0);
        book.addPlace(0);
        book.set(1, 1, COSTS, 11, 11);
        book.hold(1, 11, true);
        String before = Probe.of(book, 11);
        Check.thrown("the last month has less", Check.STATE, () -> book.spreadYear(1, 0, 131));
        Check.thrown("no free leaf in the last month", Check.STATE, () -> book.spreadYear(1, 1, 1000000));
        Check.due("nothing changed", Probe.of(book, 11), before);
        Check.due("enough", book.spreadYear(1, 0, 132), 22);
        book.handIn(1, 0);
        Check.thrown("all closed", Check.STATE, () -> book.spreadYear(1, 0, 1000));
        Check.due("open in another version", book.spreadYear(0, 0, 24), 23);
        for (int month = 0; month < 12; month++) {
            book.setSeason(month, 0);
        }
        before = Probe.of(book, 11);
        Check.thrown("all weights 0", Check.STATE, () -> book.spreadYear(0, 0, 24));
        Check.thrown("all weights 0, sum 0", Check.STATE, () -> book.spreadYear(2, 0, 0));
        Check.due("nothing changed", Probe.of(book, 11), before);
    }

    private static void eachMonthMayRefuse() {
        for (int month = 0; month < 12; month++) {
            BudgetBook book = new BudgetBook();
            book.addPlace(0);
            book.addPlace(0);
            book.set(0, 1, COSTS, month, 3);
            book.hold(1, month, true);
            Check.thrown("the rest is below 0", Check.STATE, () -> book.spreadYear(0, 0, 24));
            Check.thrown("no free leaf", Check.STATE, () -> book.spreadYear(0, 1, 1000));
            Check.due("nothing changed", book.year(0, 0, COSTS), 3);
            Check.due("the rest is 0", book.spreadYear(0, 0, 36), 22);
            Check.due("the other leaf", book.year(0, 2, COSTS), 11);
        }
    }

    /** Costs of 10 * leaf in each month of version 1, and these weights of the seasons. */
    private static BudgetBook bookOf(int leaves, int... weights) {
        BudgetBook book = Books.withLeaves(leaves);
        for (int month = 0; month < 12; month++) {
            for (int leaf = 1; leaf <= leaves; leaf++) {
                book.set(1, leaf, COSTS, month, 10 * leaf);
            }
            book.setSeason(month, weights[month]);
        }
        return book;
    }

    private static int[] weightsBut(int month, int weight, int others) {
        int[] weights = new int[12];
        Arrays.fill(weights, others);
        weights[month] = weight;
        return weights;
    }

    private static void allWeightsZero() {
        Supplier<BudgetBook> none = () -> bookOf(2, new int[12]);
        for (int sum : new int[] {0, 1, 1000000}) {
            for (int place = 0; place <= 2; place++) {
                int of = place;
                Check.refused("all weights 0", Check.STATE, none, book -> book.spreadYear(1, of, sum));
            }
            Check.refused("a sum below 0 goes first", Check.ARGUMENT, none, book -> book.spreadYear(1, 0, -1));
            Check.refused("a sum above goes first", Check.ARGUMENT, none, book -> book.spreadYear(1, 0, 1000001));
            Check.refused("no such place goes first", Check.INDEX, none, book -> book.spreadYear(1, 3, sum));
            Check.refused("no such version goes first", Check.INDEX, none, book -> book.spreadYear(3, 0, sum));
        }
        BudgetBook book = none.get();
        book.setSeason(7, 1);
        Check.due("one is enough", book.spreadYear(1, 0, 30), 22);
    }

    private static void oneWeightThatIsNotZero() {
        for (int only = 0; only < 12; only++) {
            for (int weight : new int[] {1, 100}) {
                BudgetBook book = bookOf(2, weightsBut(only, weight, 0));
                Check.due("changed", book.spreadYear(1, 0, 1000000), 24);
                for (int month = 0; month < 12; month++) {
                    Check.due("leaf 1", book.amount(1, 1, COSTS, month), month == only ? 333334 : 0);
                    Check.due("leaf 2", book.amount(1, 2, COSTS, month), month == only ? 666666 : 0);
                }
            }
        }
    }

    /** 1 each, and none to a month whose weight is 0. */
    private static void whatIsLeftByRisingMonths() {
        int[] weights = {0, 5, 0, 5, 5, 0, 0, 5, 0, 0, 0, 5};
        for (int sum = 0; sum <= 11; sum++) {
            BudgetBook book = bookOf(1, weights);
            book.spreadYear(1, 0, sum);
            monthsDue(sum + " by five months", book, 0, 0, (sum + 4) / 5, 0, (sum + 3) / 5, (sum + 2) / 5, 0, 0,
                    (sum + 1) / 5, 0, 0, 0, sum / 5);
        }
        BudgetBook book = bookOf(1, weightsBut(11, 100, 1));
        book.spreadYear(1, 0, 110);
        monthsDue("110 by 111", book, 0, 1, 1, 1, 1, 1, 1, 1, 1, 1, 1, 1, 99);
        book.spreadYear(1, 0, 11);
        monthsDue("11 by 111", book, 0, 1, 1, 0, 0, 0, 0, 0, 0, 0, 0, 0, 9);
    }

    /** "to spread what each month gets, also if that is 0" */
    private static void monthsThatGetZeroAreEmptied() {
        BudgetBook book = bookOf(2, weightsBut(4, 1, 0));
        Check.due("a sum of 0", book.spreadYear(1, 0, 0), 24);
        Check.due("a sum of 0", book.filled(), 0);
        book = bookOf(2, weightsBut(4, 0, 1));
        Check.due("a weight of 0", book.spreadYear(1, 0, 330), 2);
        Check.due("a weight of 0", book.amount(1, 0, COSTS, 4), 0);
        Check.due("beside it", book.amount(1, 0, COSTS, 5), 30);
        book = bookOf(2, weightsBut(4, 1, 1));
        Check.due("a sum too small for all", book.spreadYear(1, 0, 11), 24);
        monthsDue("a sum too small for all", book, 1, 1, 1, 1, 1, 1, 1, 1, 1, 1, 1, 1, 0);
        monthsDue("a sum too small for all", book, 2, 0, 0, 0, 0, 0, 0, 0, 0, 0, 0, 0, 0);
        book = bookOf(2, weightsBut(4, 0, 1));
        book.hold(1, 4, true);
        book.set(1, 1, COSTS, 4, 0);
        Check.due("a held 0 in a month that gets 0", book.spreadYear(1, 0, 330), 1);
    }

    private static void aMonthThatGetsZeroMayRefuse() {
        for (int month = 0; month < 12; month++) {
            int in = month;
            Supplier<BudgetBook> oneHeld = () -> {
                BudgetBook book = bookOf(2, weightsBut(in, 0, 1));
                book.hold(1, in, true);
                return book;
            };
            Check.refused("a rest below 0", Check.STATE, oneHeld, book -> book.spreadYear(1, 0, 1000000));
            Check.refused("no free leaf", Check.STATE, oneHeld, book -> book.spreadYear(1, 1, 1000000));
            Check.due("the other leaf", oneHeld.get().spreadYear(1, 2, 220), 1);
        }
    }

    private static void oneMonthWithoutAFreeLeaf() {
        for (int month = 0; month < 12; month++) {
            int in = month;
            Supplier<BudgetBook> allHeld = () -> {
                BudgetBook book = bookOf(2, weightsBut(in, 1, 1));
                book.hold(1, in, true);
                book.hold(2, in, true);
                return book;
            };
            for (int sum : new int[] {0, 359, 360, 361, 1000000}) {
                Check.refused("all held in one month", Check.STATE, allHeld, book -> book.spreadYear(1, 0, sum));
            }
            BudgetBook book = allHeld.get();
            book.hold(2, in, false);
            Check.due("one is free", book.spreadYear(1, 0, 360), 0);
        }
    }

    private static void oneMonthWithARestBelowZero() {
        for (int month = 0; month < 12; month++) {
            int in = month;
            Supplier<BudgetBook> oneHeld = () -> {
                BudgetBook book = bookOf(2, weightsBut(in, 1, 1));
                book.hold(2, in, true);
                return book;
            };
            // The month gets 19: what is left of the sum goes to the months before it alone.
            Check.refused("a rest of -1", Check.STATE, oneHeld, book -> book.spreadYear(1, 0, 12 * 19 + in));
            Check.due("a rest of 0", oneHeld.get().spreadYear(1, 0, 12 * 19 + in + 1), 23);
        }
    }

    private static void oneMonthWithARestOfZero() {
        BudgetBook book = bookOf(3, weightsBut(8, 1, 1));
        book.hold(1, 8, true);
        book.hold(3, 8, true);
        Check.due("changed", book.spreadYear(1, 0, 480), 34);
        Check.due("the free leaf", book.amount(1, 2, COSTS, 8), 0);
        Check.due("a held leaf", book.amount(1, 1, COSTS, 8), 10);
        Check.due("a held leaf", book.amount(1, 3, COSTS, 8), 30);
        Check.due("the year", book.year(1, 0, COSTS), 480);
    }

    private static void closedInTheVersion() {
        Supplier<BudgetBook> closed = () -> {
            BudgetBook book = bookOf(2, weightsBut(0, 1, 1));
            book.handIn(1, 2);
            return book;
        };
        Check.refused("the closed leaf alone", Check.STATE, closed, book -> book.spreadYear(1, 2, 240));
        Check.refused("less than it has", Check.STATE, closed, book -> book.spreadYear(1, 0, 239));
        Check.due("just what it has", closed.get().spreadYear(1, 0, 240), 12);
        Check.due("open in another version", closed.get().spreadYear(0, 2, 239), 12);
        BudgetBook book = closed.get();
        Check.due("beside it", book.spreadYear(1, 0, 600), 12);
        monthsDue("beside it", book, 1, 30, 30, 30, 30, 30, 30, 30, 30, 30, 30, 30, 30);
        monthsDue("it stays", book, 2, 20, 20, 20, 20, 20, 20, 20, 20, 20, 20, 20, 20);
    }

    private static void greatestSumAndWeights() {
        BudgetBook book = new BudgetBook();
        for (int month = 0; month < 12; month++) {
            book.setSeason(month, month < 2 ? 100 : 0);
            book.set(1, 0, COSTS, month, 1000000);
        }
        Check.due("changed", book.spreadYear(1, 0, 1000000), 12);
        monthsDue("two of 100", book, 0, 500000, 500000, 0, 0, 0, 0, 0, 0, 0, 0, 0, 0);
        for (int month = 2; month < 12; month++) {
            book.setSeason(month, 99);
        }
        book.spreadYear(1, 0, 1000000);
        monthsDue("100 and 99", book, 0, 84034, 84034, 83194, 83194, 83193, 83193, 83193, 83193, 83193, 83193,
                83193, 83193);
    }

    private static void throwsInOrder() {
        BudgetBook book = new BudgetBook();
        book.handIn(0, 0);
        for (int wrong : new int[] {-1, 3, 10, Integer.MAX_VALUE, Integer.MIN_VALUE}) {
            Check.thrown("version", Check.INDEX, () -> book.spreadYear(wrong, 0, -1));
            Check.thrown("place", Check.INDEX, () -> book.spreadYear(0, wrong, -1));
        }
        Check.thrown("place 1", Check.INDEX, () -> book.spreadYear(0, 1, 1));
        for (int wrong : new int[] {-1, 1000001, Integer.MAX_VALUE, Integer.MIN_VALUE}) {
            Check.thrown("sum", Check.ARGUMENT, () -> book.spreadYear(0, 0, wrong));
        }
        Check.thrown("state last", Check.STATE, () -> book.spreadYear(0, 0, 1000000));
        Check.due("nothing changed", book.filled(), 0);
    }
}
