/** Promises 15 to 19: amount, outlook, year, yearByLeaves, filled. */
final class AmountsTest {
    private static final int HEADS = BudgetBook.HEADS, PRICE = BudgetBook.PRICE;
    private static final int COSTS = BudgetBook.COSTS, PAY = BudgetBook.PAY;

    private AmountsTest() {
    }

    static void run() {
        amount();
        outlook();
        years();
        greatestYears();
        greatestOutlook();
        payOfLeavesNotOfSums();
        payWithAZero();
        theRootAlone();
        filled();
        filledFully();
        throwing();
    }

    /** Leaves 2, 3 and 4; 3 and 4 are below 1. */
    private static BudgetBook book() {
        BudgetBook book = new BudgetBook();
        book.addPlace(0);
        book.addPlace(0);
        book.addPlace(1);
        book.addPlace(1);
        for (int leaf = 2; leaf <= 4; leaf++) {
            book.set(1, leaf, HEADS, 6, leaf);
            book.set(1, leaf, PRICE, 6, leaf * 10);
            book.set(1, leaf, COSTS, 6, leaf * 1000);
        }
        return book;
    }

    private static void amount() {
        BudgetBook book = book();
        int[][] due = {{9, 90, 9000, 290}, {7, 70, 7000, 250}, {2, 20, 2000, 40}, {3, 30, 3000, 90}, {4, 40, 4000, 160}};
        for (int place = 0; place < 5; place++) {
            for (int account = 0; account <= PAY; account++) {
                Check.due("amount", book.amount(1, place, account, 6), due[place][account]);
                Check.due("another month", book.amount(1, place, account, 5), 0);
                Check.due("another version", book.amount(2, place, account, 6), 0);
                Check.due("outlook", book.outlook(1, place, account, 6), due[place][account]);
            }
        }
        book.closeMonth();
        Check.due("amounts are not seen", book.amount(1, 0, PAY, 6), 290);
    }

    private static void outlook() {
        BudgetBook book = book();
        book.set(1, 3, HEADS, 0, 8);
        book.set(1, 3, PRICE, 0, 8);
        book.set(2, 3, HEADS, 0, 9);
        book.see(3, HEADS, 0, 5);
        book.see(3, PRICE, 0, 7);
        book.see(4, HEADS, 0, 2);
        book.see(4, PRICE, 0, 3);
        book.see(4, COSTS, 0, 11);
        book.see(4, COSTS, 6, 99);
        Check.due("not seen yet", book.outlook(1, 0, PAY, 0), 64);
        Check.due("not seen yet", book.outlook(2, 0, HEADS, 0), 9);
        book.closeMonth();
        for (int version = 0; version < 3; version++) {
            Check.due("seen heads", book.outlook(version, 0, HEADS, 0), 7);
            Check.due("seen price", book.outlook(version, 1, PRICE, 0), 10);
            Check.due("seen costs", book.outlook(version, 4, COSTS, 0), 11);
            Check.due("seen pay", book.outlook(version, 0, PAY, 0), 41);
            Check.due("seen pay beside", book.outlook(version, 2, PAY, 0), 0);
        }
        Check.due("the month 6 is not seen", book.outlook(1, 0, COSTS, 6), 9000);
        for (int months = 2; months <= 7; months++) {
            Check.due("not seen before", book.outlook(1, 0, COSTS, 6), 9000);
            book.closeMonth();
        }
        Check.due("the month 6 is seen", book.outlook(1, 0, COSTS, 6), 99);
        Check.due("the version stays", book.amount(1, 0, COSTS, 6), 9000);
    }

    private static void years() {
        BudgetBook book = book();
        book.set(1, 3, COSTS, 0, 7);
        book.set(1, 4, COSTS, 11, 8);
        book.set(1, 3, HEADS, 0, 10);
        book.set(1, 3, PRICE, 0, 11);
        book.set(1, 3, PRICE, 1, 500);
        book.see(3, COSTS, 0, 12345);
        book.closeMonth();
        int[][] due = {{19, 601, 9015, 400}, {17, 581, 7015, 360}, {2, 20, 2000, 40}, {13, 541, 3007, 200},
            {4, 40, 4008, 160}};
        for (int place = 0; place < 5; place++) {
            for (int account = 0; account <= PAY; account++) {
                Check.due("year", book.year(1, place, account), due[place][account]);
                Check.due("yearByLeaves", book.yearByLeaves(1, place, account), due[place][account]);
                Check.due("another version", book.year(0, place, account), 0);
                Check.due("another version", book.yearByLeaves(2, place, account), 0);
            }
        }
    }

    private static void greatestYears() {
        BudgetBook book = new BudgetBook();
        for (int number = 1; number < 10; number++) {
            book.addPlace(0);
        }
        for (int leaf = 1; leaf < 10; leaf++) {
            for (int month = 0; month < 12; month++) {
                book.set(2, leaf, HEADS, month, 1000);
                book.set(2, leaf, PRICE, month, 1000);
                book.set(2, leaf, COSTS, month, 1000000);
            }
        }
        Check.due("month", book.amount(2, 0, PAY, 11), 9000000);
        Check.due("pay", book.year(2, 0, PAY), 108000000);
        Check.due("costs", book.yearByLeaves(2, 0, COSTS), 108000000);
        Check.due("heads", book.year(2, 0, HEADS), 108000);
        Check.due("filled", book.filled(), 324);
    }

    private static void greatestOutlook() {
        BudgetBook book = Books.wide();
        for (int leaf = 1; leaf <= 9; leaf++) {
            for (int month = 0; month < 12; month += 11) {
                book.see(leaf, HEADS, month, 1000);
                book.see(leaf, PRICE, month, 1000);
                book.see(leaf, COSTS, month, 1000000);
            }
        }
        for (int month = 0; month < 12; month++) {
            Check.due("not seen yet", book.outlook(0, 0, PAY, month), 0);
            book.closeMonth();
        }
        for (int month = 0; month < 12; month += 11) {
            Check.due("seen pay", book.outlook(0, 0, PAY, month), 9000000);
            Check.due("seen costs", book.outlook(1, 0, COSTS, month), 9000000);
            Check.due("seen heads", book.outlook(2, 0, HEADS, month), 9000);
            Check.due("seen price of the tenth place", book.outlook(2, 9, PRICE, month), 1000);
            Check.due("no version has it", book.amount(0, 0, PAY, month), 0);
        }
        Check.due("a year is of the version", book.year(0, 0, PAY), 0);
        Check.due("a year is of the version", book.yearByLeaves(0, 0, COSTS), 0);
    }

    /** The sum of the products, not the product of the sums. */
    private static void payOfLeavesNotOfSums() {
        BudgetBook book = Books.withLeaves(2);
        book.set(0, 1, HEADS, 0, 1000);
        book.set(0, 2, PRICE, 0, 1000);
        book.set(0, 1, PRICE, 1, 1000);
        Check.due("heads of one, price of the other", book.amount(0, 0, PAY, 0), 0);
        Check.due("in a year", book.year(0, 0, PAY), 0);
        Check.due("leaf by leaf", book.yearByLeaves(0, 0, PAY), 0);
        Check.due("heads in one month, price in the other", book.year(0, 1, PAY), 0);
        Check.due("leaf by leaf", book.yearByLeaves(0, 1, PAY), 0);
        book.set(0, 2, HEADS, 0, 1);
        Check.due("one product", book.amount(0, 0, PAY, 0), 1000);
    }

    private static void payWithAZero() {
        BudgetBook book = new BudgetBook();
        Check.due("nothing", book.amount(1, 0, PAY, 0), 0);
        book.set(1, 0, HEADS, 0, 1000);
        Check.due("price 0", book.amount(1, 0, PAY, 0), 0);
        book.set(1, 0, PRICE, 0, 1);
        Check.due("price 1", book.amount(1, 0, PAY, 0), 1000);
        book.set(1, 0, PRICE, 0, 1000);
        Check.due("the greatest of a leaf", book.amount(1, 0, PAY, 0), 1000000);
        book.set(1, 0, HEADS, 0, 0);
        Check.due("heads 0", book.amount(1, 0, PAY, 0), 0);
        Check.due("pay is no cell", book.filled(), 1);
    }

    private static void theRootAlone() {
        BudgetBook book = new BudgetBook();
        int cells = 0;
        for (int version = 0; version < 3; version++) {
            for (int account = 0; account <= COSTS; account++) {
                for (int month = 0; month < 12; month++) {
                    book.set(version, 0, account, month, month + 1);
                    cells++;
                    Check.due("filled", book.filled(), cells);
                }
                Check.due("year", book.year(version, 0, account), 78);
                Check.due("yearByLeaves", book.yearByLeaves(version, 0, account), 78);
            }
            Check.due("pay", book.year(version, 0, PAY), 650);
            Check.due("pay", book.yearByLeaves(version, 0, PAY), 650);
        }
    }

    private static void filled() {
        BudgetBook book = book();
        Check.due("filled", book.filled(), 9);
        book.set(1, 2, HEADS, 6, 3);
        Check.due("changed", book.filled(), 9);
        book.set(1, 2, HEADS, 6, 0);
        Check.due("emptied", book.filled(), 8);
        book.see(4, PRICE, 11, 1);
        Check.due("seen", book.filled(), 9);
        book.spread(0, 0, 0, 2, BudgetBook.EVENLY);
        Check.due("spread", book.filled(), 11);
        book.copy(1, 2);
        Check.due("copied", book.filled(), 19);
        book.handIn(1, 0);
        book.closeMonth();
        book.hold(2, 0, true);
        Check.due("not what is held, closed, seen", book.filled(), 19);
    }

    /** Cells of nine leaves in all versions, and some seen ones: the last leaf and month count, too. */
    private static void filledFully() {
        BudgetBook book = Books.wide();
        for (int leaf = 1; leaf <= 9; leaf++) {
            for (int account = 0; account <= COSTS; account++) {
                for (int month = 0; month < 12; month++) {
                    book.set(0, leaf, account, month, 1);
                }
            }
        }
        Check.due("one version", book.filled(), 324);
        book.copy(0, 1);
        book.copy(0, 2);
        Check.due("all versions", book.filled(), 972);
        for (int leaf = 1; leaf <= 9; leaf++) {
            for (int month = 0; month < 12; month++) {
                book.see(leaf, COSTS, month, 1);
            }
        }
        Check.due("and seen ones", book.filled(), 1080);
        Check.due("emptied", book.set(0, 9, COSTS, 11, 0), 1);
        Check.due("emptied", book.filled(), 1079);
    }

    private static void throwing() {
        BudgetBook book = book();
        for (int wrong : new int[] {-1, 12, 32, Integer.MAX_VALUE, Integer.MIN_VALUE}) {
            Check.thrown("amount version", Check.INDEX, () -> book.amount(wrong, 0, 0, 0));
            Check.thrown("amount place", Check.INDEX, () -> book.amount(0, wrong, 0, 0));
            Check.thrown("amount account", Check.INDEX, () -> book.amount(0, 0, wrong, 0));
            Check.thrown("amount month", Check.INDEX, () -> book.amount(0, 0, 0, wrong));
            Check.thrown("outlook version", Check.INDEX, () -> book.outlook(wrong, 0, 0, 0));
            Check.thrown("outlook place", Check.INDEX, () -> book.outlook(0, wrong, 0, 0));
            Check.thrown("outlook account", Check.INDEX, () -> book.outlook(0, 0, wrong, 0));
            Check.thrown("outlook month", Check.INDEX, () -> book.outlook(0, 0, 0, wrong));
            Check.thrown("year version", Check.INDEX, () -> book.year(wrong, 0, 0));
            Check.thrown("year place", Check.INDEX, () -> book.year(0, wrong, 0));
            Check.thrown("year account", Check.INDEX, () -> book.year(0, 0, wrong));
            Check.thrown("yearByLeaves version", Check.INDEX, () -> book.yearByLeaves(wrong, 0, 0));
            Check.thrown("yearByLeaves place", Check.INDEX, () -> book.yearByLeaves(0, wrong, 0));
            Check.thrown("yearByLeaves account", Check.INDEX, () -> book.yearByLeaves(0, 0, wrong));
        }
        Check.thrown("amount version 3", Check.INDEX, () -> book.amount(3, 0, 0, 0));
        Check.thrown("amount place 5", Check.INDEX, () -> book.amount(0, 5, 0, 0));
        Check.thrown("amount account 4", Check.INDEX, () -> book.amount(0, 0, 4, 0));
        Check.thrown("outlook version 3", Check.INDEX, () -> book.outlook(3, 0, 0, 0));
        Check.thrown("outlook place 5", Check.INDEX, () -> book.outlook(0, 5, 0, 0));
        Check.thrown("outlook account 4", Check.INDEX, () -> book.outlook(0, 0, 4, 0));
        Check.thrown("year version 3", Check.INDEX, () -> book.year(3, 0, 0));
        Check.thrown("year place 5", Check.INDEX, () -> book.year(0, 5, 0));
        Check.thrown("year account 4", Check.INDEX, () -> book.year(0, 0, 4));
        Check.thrown("yearByLeaves version 3", Check.INDEX, () -> book.yearByLeaves(3, 0, 0));
        Check.thrown("yearByLeaves place 5", Check.INDEX, () -> book.yearByLeaves(0, 5, 0));
        Check.thrown("yearByLeaves account 4", Check.INDEX, () -> book.yearByLeaves(0, 0, 4));
        for (int months = 0; months < 12; months++) {
            book.closeMonth();
        }
        Check.thrown("outlook version when all is seen", Check.INDEX, () -> book.outlook(3, 0, 0, 0));
    }
}
