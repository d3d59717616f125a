/** Promise 9: spreadYear. */
final class SpreadYearTest {
    private static final int COSTS = BudgetBook.COSTS;

    private SpreadYearTest() {
    }

    static void run() {
        evenSeasons();
        bySeasons();
        oneSeason();
        byFormerInEachMonth();
        aMonthThatGetsZero();
        cannotBeSpread();
        eachMonthMayRefuse();
        throwsInOrder();
    }

    private static void monthsDue(String what, BudgetBook book, int place, int... due) {
        for (int month = 0; month < 12; month++) {
            Check.due(what + ", month " + month, book.amount(1, place, COSTS, month), due[month]);
        }
    }

    private static void evenSeasons() {
        BudgetBook book = new BudgetBook();
        Check.due("changed", book.spreadYear(1, 0, 1000000), 12);
        monthsDue("1000000", book, 0, 83334, 83334, 83334, 83334, 83333, 83333, 83333, 83333,
                83333, 83333, 83333, 83333);
        Check.due("the same", book.spreadYear(1, 0, 1000000), 0);
        Check.due("other versions", book.year(0, 0, COSTS) + book.year(2, 0, COSTS), 0);
        Check.due("less than months", book.spreadYear(1, 0, 5), 12);
        monthsDue("5", book, 0, 1, 1, 1, 1, 1, 0, 0, 0, 0, 0, 0, 0);
        Check.due("0", book.spreadYear(1, 0, 0), 5);
        Check.due("0", book.filled(), 0);
    }

    private static void bySeasons() {
        BudgetBook book = new BudgetBook();
        int[] weights = {0, 100, 3, 0, 7, 0, 1, 1, 0, 0, 50, 38};
        for (int month = 0; month < 12; month++) {
            book.setSeason(month, weights[month]);
        }
        Check.due("changed", book.spreadYear(1, 0, 1003), 7);
        monthsDue("1003 by 200", book, 0, 0, 502, 16, 0, 35, 0, 5, 5, 0, 0, 250, 190);
        for (int month = 0; month < 12; month++) {
            Check.due("the weights stay", book.setSeason(month, 100), weights[month]);
        }
        Check.due("all at most", book.spreadYear(1, 0, 24), 12);
        monthsDue("all at most", book, 0, 2, 2, 2, 2, 2, 2, 2, 2, 2, 2, 2, 2);
    }

    private static void oneSeason() {
        BudgetBook book = new BudgetBook();
        for (int month = 0; month < 11; month++) {
            book.setSeason(month, 0);
        }
        Check.due("changed", book.spreadYear(1, 0, 1000000), 1);
        monthsDue("one season", book, 0, 0, 0, 0, 0, 0, 0, 0, 0, 0, 0, 0, 1000000);
    }

    private static void byFormerInEachMonth() {
        BudgetBook book = new BudgetBook();
        book.addPlace(0);
        book.addPlace(0);
        book.set(1, 1, COSTS, 0, 3);
        book.set(1, 2, COSTS, 0, 1);
        book.set(1, 2, COSTS, 1, 50);
        book.hold(1, 2, true);
        Check.due("changed", book.spreadYear(1, 0, 120), 22);
        monthsDue("leaf 1", book, 1, 8, 0, 0, 5, 5, 5, 5, 5, 5, 5, 5, 5);
        monthsDue("leaf 2", book, 2, 2, 10, 10, 5, 5, 5, 5, 5, 5, 5, 5, 5);
        book.hold(1, 2, false);
        book.handIn(1, 2);
        Check.due("beside a closed leaf", book.spreadYear(1, 1, 0), 10);
        monthsDue("leaf 1", book, 1, 0, 0, 0, 0, 0, 0, 0, 0, 0, 0, 0, 0);
        monthsDue("leaf 2", book, 2, 2, 10, 10, 5, 5, 5, 5, 5, 5, 5, 5, 5);
    }

    private static void aMonthThatGetsZero() {
        BudgetBook book = new BudgetBook();
        book.addPlace(0);
        book.addPlace(0);
        book.setSeason(6, 0);
        book.set(1, 1, COSTS, 6, 40);
        book.set(1, 2, COSTS, 6, 50);
        Check.due("it is spread too", book.spreadYear(1, 1, 110), 12);
        Check.due("it is spread too", book.amount(1, 1, COSTS, 6), 0);
        book.hold(2, 6, true);
        Check.thrown("and may refuse", Check.STATE, () -> book.spreadYear(1, 0, 110));
        book.set(1, 2, COSTS, 6, 0);
        Check.due("no more", book.spreadYear(1, 0, 110), 0);
        book.hold(1, 6, true);
        Check.thrown("no free leaf for 0", Check.STATE, () -> book.spreadYear(1, 0, 110));
    }

    private static void cannotBeSpread() {
        BudgetBook book = new BudgetBook();
        book.addPlace(0);
        book.addPlace(0);
        book.set(1, 1, COSTS, 11, 11);
        book.hold(1, 11, true);
        String before = Probe.of(book, 11);
        Check.thrown("the last month has less", Check.STATE, () -> book.spreadYear(1, 0, 131));
        Check.thrown("no free leaf in the last month", Check.STATE, () -> book.spreadYear(1, 1, 1000000));
        Check.due("nothing changed", Probe.of(book, 11), before);
        Check.due("enough", book.spreadYear(1, 0, 132), 22);
        book.handIn(1, 0);
        Check.thrown("all closed", Check.STATE, () -> book.spreadYear(1, 0, 1000));
        Check.due("open in another version", book.spreadYear(0, 0, 24), 23);
        for (int month = 0; month < 12; month++) {
            book.setSeason(month, 0);
        }
        before = Probe.of(book, 11);
        Check.thrown("all weights 0", Check.STATE, () -> book.spreadYear(0, 0, 24));
        Check.thrown("all weights 0, sum 0", Check.STATE, () -> book.spreadYear(2, 0, 0));
        Check.due("nothing changed", Probe.of(book, 11), before);
    }

    private static void eachMonthMayRefuse() {
        for (int month = 0; month < 12; month++) {
            BudgetBook book = new BudgetBook();
            book.addPlace(0);
            book.addPlace(0);
            book.set(0, 1, COSTS, month, 3);
            book.hold(1, month, true);
            Check.thrown("the rest is below 0", Check.STATE, () -> book.spreadYear(0, 0, 24));
            Check.thrown("no free leaf", Check.STATE, () -> book.spreadYear(0, 1, 1000));
            Check.due("nothing changed", book.year(0, 0, COSTS), 3);
            Check.due("the rest is 0", book.spreadYear(0, 0, 36), 22);
            Check.due("the other leaf", book.year(0, 2, COSTS), 11);
        }
    }

    private static void throwsInOrder() {
        BudgetBook book = new BudgetBook();
        book.handIn(0, 0);
        for (int wrong : new int[] {-1, 3, 10, Integer.MAX_VALUE, Integer.MIN_VALUE}) {
            Check.thrown("version", Check.INDEX, () -> book.spreadYear(wrong, 0, -1));
            Check.thrown("place", Check.INDEX, () -> book.spreadYear(0, wrong, -1));
        }
        Check.thrown("place 1", Check.INDEX, () -> book.spreadYear(0, 1, 1));
        for (int wrong : new int[] {-1, 1000001, Integer.MAX_VALUE, Integer.MIN_VALUE}) {
            Check.thrown("sum", Check.ARGUMENT, () -> book.spreadYear(0, 0, wrong));
        }
        Check.thrown("state last", Check.STATE, () -> book.spreadYear(0, 0, 1000000));
        Check.due("nothing changed", book.filled(), 0);
    }
}
