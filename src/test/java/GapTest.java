/** Promise 20: gap. */
final class GapTest {
    private static final int HEADS = BudgetBook.HEADS, PRICE = BudgetBook.PRICE;

    private GapTest() {
    }

    static void run() {
        oneCell();
        eachMonth();
        sums();
        greatest();
        greatestParts();
        theSameVersion();
        ofLeavesNotOfSums();
        throwsInOrder();
    }

    private static void fill(BudgetBook book, int version, int leaf, int month, int heads, int price) {
        book.set(version, leaf, HEADS, month, heads);
        book.set(version, leaf, PRICE, month, price);
    }

    private static void gapsDue(String what, BudgetBook book, int one, int other, int place, int... due) {
        for (int part = 0; part < 4; part++) {
            Check.due(what + ", part " + part, book.gap(one, other, place, part), due[part]);
        }
        Check.due(what + ", whole is the sum of its parts", due[1] + due[2] + due[3], due[0]);
    }

    private static void oneCell() {
        BudgetBook book = new BudgetBook();
        fill(book, 0, 0, 3, 10, 50);
        fill(book, 1, 0, 3, 12, 45);
        gapsDue("0 to 1", book, 0, 1, 0, 40, 100, -50, -10);
        gapsDue("1 to 0", book, 1, 0, 0, -40, -90, 60, -10);
        gapsDue("0 to 0", book, 0, 0, 0, 0, 0, 0, 0);
        gapsDue("0 to empty", book, 0, 2, 0, -500, -500, -500, 500);
        gapsDue("empty to 0", book, 2, 0, 0, 500, 0, 0, 500);
        book.see(0, HEADS, 3, 900);
        book.set(1, 0, BudgetBook.COSTS, 3, 77);
        for (int months = 0; months < 12; months++) {
            book.closeMonth();
        }
        gapsDue("nothing seen, no costs", book, 0, 1, 0, 40, 100, -50, -10);
    }

    private static void eachMonth() {
        BudgetBook book = new BudgetBook();
        book.set(1, 0, BudgetBook.COSTS, 0, 1000);
        for (int month = 0; month < 12; month++) {
            fill(book, 0, 0, month, 1, 10);
            fill(book, 1, 0, month, 2 + month, 11);
        }
        gapsDue("each month", book, 0, 1, 0, 870, 780, 12, 78);
    }

    private static void sums() {
        BudgetBook book = new BudgetBook();
        book.addPlace(0);
        book.addPlace(0);
        book.addPlace(1);
        book.addPlace(1);
        fill(book, 0, 3, 0, 1, 2);
        fill(book, 2, 3, 0, 3, 5);
        fill(book, 0, 3, 11, 7, 7);
        fill(book, 2, 3, 11, 6, 9);
        fill(book, 2, 4, 5, 100, 10);
        fill(book, 0, 2, 5, 4, 4);
        fill(book, 2, 2, 5, 4, 5);
        gapsDue("3", book, 0, 2, 3, 18, -3, 17, 4);
        gapsDue("4", book, 0, 2, 4, 1000, 0, 0, 1000);
        gapsDue("2", book, 0, 2, 2, 4, 0, 4, 0);
        gapsDue("1", book, 0, 2, 1, 1018, -3, 17, 1004);
        gapsDue("0", book, 0, 2, 0, 1022, -3, 21, 1004);
        gapsDue("beside", book, 0, 1, 4, 0, 0, 0, 0);
    }

    private static void greatest() {
        BudgetBook book = new BudgetBook();
        for (int number = 1; number < 10; number++) {
            book.addPlace(0);
        }
        for (int leaf = 1; leaf < 10; leaf++) {
            for (int month = 0; month < 12; month++) {
                fill(book, 1, leaf, month, 1000, 1000);
            }
        }
        gapsDue("greatest", book, 0, 1, 0, 108000000, 0, 0, 108000000);
        gapsDue("least", book, 1, 0, 0, -108000000, -108000000, -108000000, 108000000);
        gapsDue("tenth place", book, 0, 1, 9, 12000000, 0, 0, 12000000);
    }

    /** Each part at its greatest and its least, of a leaf in a year. */
    private static void greatestParts() {
        int[][] due = {
            {0, 0, 1000, 1000, 12000000, 0, 0, 12000000},
            {0, 1000, 1000, 1000, 12000000, 12000000, 0, 0},
            {1000, 0, 1000, 1000, 12000000, 0, 12000000, 0},
            {1000, 1000, 0, 0, -12000000, -12000000, -12000000, 12000000},
            {1000, 1000, 0, 1000, -12000000, -12000000, 0, 0},
            {1000, 1000, 1000, 0, -12000000, 0, -12000000, 0},
            {0, 1000, 1000, 0, 0, 12000000, 0, -12000000},
            {1000, 0, 0, 1000, 0, 0, 12000000, -12000000},
        };
        for (int[] row : due) {
            BudgetBook book = Books.deep();
            for (int month = 0; month < 12; month++) {
                fill(book, 0, 9, month, row[0], row[1]);
                fill(book, 2, 9, month, row[2], row[3]);
            }
            for (int place = 0; place < 10; place++) {
                gapsDue("greatest parts", book, 0, 2, place, row[4], row[5], row[6], row[7]);
            }
        }
    }

    private static void theSameVersion() {
        for (int version = 0; version < 3; version++) {
            BudgetBook book = Books.inUse();
            for (int place = 0; place < 3; place++) {
                gapsDue("the same version", book, version, version, place, 0, 0, 0, 0);
            }
        }
    }

    private static void ofLeavesNotOfSums() {
        BudgetBook book = Books.withLeaves(2);
        fill(book, 0, 1, 0, 10, 0);
        fill(book, 0, 2, 0, 0, 10);
        fill(book, 1, 1, 0, 0, 10);
        fill(book, 1, 2, 0, 10, 0);
        gapsDue("one for the other", book, 0, 1, 0, 0, 100, 100, -200);
        gapsDue("empty", Books.withLeaves(2), 0, 1, 0, 0, 0, 0, 0);
        BudgetBook apart = new BudgetBook();
        fill(apart, 0, 0, 3, 10, 0);
        fill(apart, 1, 0, 4, 0, 10);
        gapsDue("in different months", apart, 0, 1, 0, 0, 0, 0, 0);
    }

    private static void throwsInOrder() {
        BudgetBook book = new BudgetBook();
        for (int wrong : new int[] {-1, 3, 10, Integer.MAX_VALUE, Integer.MIN_VALUE}) {
            Check.thrown("one", Check.INDEX, () -> book.gap(wrong, 0, 0, -1));
            Check.thrown("other", Check.INDEX, () -> book.gap(0, wrong, 0, 4));
            Check.thrown("place", Check.INDEX, () -> book.gap(0, 1, wrong, 4));
        }
        Check.thrown("place 1", Check.INDEX, () -> book.gap(0, 1, 1, 0));
        for (int wrong : new int[] {-1, 4, Integer.MAX_VALUE, Integer.MIN_VALUE}) {
            Check.thrown("part", Check.ARGUMENT, () -> book.gap(0, 1, 0, wrong));
        }
    }
}
