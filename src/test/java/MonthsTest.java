/** Promises 13 and 14: see, closeMonth. */
final class MonthsTest {
    private MonthsTest() {
    }

    static void run() {
        see();
        seeRanges();
        seeThrowsInOrder();
        seeIsBesideAllVersions();
        closeMonth();
        allTwelveAndOneMore();
        beforeAndBehindTheLastSeenMonth();
    }

    private static void see() {
        BudgetBook book = new BudgetBook();
        book.addPlace(0);
        book.addPlace(0);
        int amount = 0;
        for (int leaf = 1; leaf <= 2; leaf++) {
            for (int account = 0; account <= BudgetBook.COSTS; account++) {
                for (int month = 0; month < 12; month++) {
                    amount++;
                    Check.due("see", book.see(leaf, account, month, amount), 0);
                }
            }
        }
        Check.due("filled", book.filled(), 72);
        Check.due("no version has it", book.year(0, 0, 0) + book.year(1, 0, 1) + book.year(2, 0, 2), 0);
        book.handIn(0, 0);
        book.hold(1, 0, true);
        book.closeMonth();
        amount = 0;
        for (int leaf = 1; leaf <= 2; leaf++) {
            for (int account = 0; account <= BudgetBook.COSTS; account++) {
                for (int month = 0; month < 12; month++) {
                    amount++;
                    Check.due("also closed, held, seen", book.see(leaf, account, month, 0), amount);
                }
            }
        }
        Check.due("filled", book.filled(), 0);
    }

    private static void seeRanges() {
        BudgetBook book = new BudgetBook();
        for (int account = 0; account <= BudgetBook.COSTS; account++) {
            int of = account;
            int most = account == BudgetBook.COSTS ? 1000000 : 1000;
            Check.due("most", book.see(0, of, 11, most), 0);
            for (int wrong : new int[] {-1, most + 1, Integer.MAX_VALUE, Integer.MIN_VALUE}) {
                Check.thrown("out of range", Check.ARGUMENT, () -> book.see(0, of, 11, wrong));
            }
            Check.due("least", book.see(0, of, 11, 0), most);
        }
    }

    private static void seeThrowsInOrder() {
        BudgetBook book = new BudgetBook();
        book.addPlace(0);
        for (int wrong : new int[] {-1, 12, Integer.MAX_VALUE, Integer.MIN_VALUE}) {
            Check.thrown("leaf", Check.INDEX, () -> book.see(wrong, 0, 0, -1));
            Check.thrown("account", Check.INDEX, () -> book.see(0, wrong, 0, -1));
            Check.thrown("month", Check.INDEX, () -> book.see(0, 0, wrong, -1));
        }
        Check.thrown("place 2", Check.INDEX, () -> book.see(2, 0, 0, 1));
        Check.thrown("PAY", Check.INDEX, () -> book.see(1, BudgetBook.PAY, 0, 1));
        Check.thrown("account 4", Check.INDEX, () -> book.see(1, 4, 0, 1));
        Check.thrown("amount before leaf", Check.ARGUMENT, () -> book.see(0, 0, 0, 1001));
        Check.thrown("no leaf", Check.STATE, () -> book.see(0, 0, 0, 1000));
        Check.due("nothing changed", book.filled(), 0);
    }

    private static void closeMonth() {
        BudgetBook book = new BudgetBook();
        for (int month = 0; month < 12; month++) {
            book.see(0, BudgetBook.COSTS, month, 5);
        }
        for (int months = 0; months < 12; months++) {
            for (int month = 0; month < 12; month++) {
                Check.due("outlook", book.outlook(0, 0, BudgetBook.COSTS, month), month < months ? 5 : 0);
            }
            Check.due("closeMonth", book.closeMonth(), months + 1);
        }
        Check.thrown("all seen", Check.STATE, book::closeMonth);
        Check.thrown("all seen", Check.STATE, book::closeMonth);
        Check.due("nothing changed", book.outlook(0, 0, BudgetBook.COSTS, 11), 5);
        Check.due("a seen month can be set", book.set(0, 0, BudgetBook.COSTS, 0, 9), 0);
        Check.due("and is kept beside", book.amount(0, 0, BudgetBook.COSTS, 0), 9);
        Check.due("and seen as it was", book.outlook(0, 0, BudgetBook.COSTS, 0), 5);
    }

    /** "Seen cells are the same for each leaf, account but PAY, and month, beside all versions." */
    private static void seeIsBesideAllVersions() {
        BudgetBook book = Books.withLeaves(2);
        for (int version = 0; version < 3; version++) {
            book.set(version, 1, BudgetBook.HEADS, 0, version + 1);
        }
        Check.due("0 at first", book.see(1, BudgetBook.HEADS, 0, 1000), 0);
        Check.due("of each leaf", book.see(2, BudgetBook.HEADS, 0, 10), 0);
        book.handIn(0, 0);
        book.handIn(1, 0);
        book.handIn(2, 0);
        Check.due("also of a leaf that is closed", book.see(1, BudgetBook.HEADS, 0, 999), 1000);
        book.closeMonth();
        Check.due("also in a month that is seen", book.see(1, BudgetBook.HEADS, 0, 998), 999);
        for (int version = 0; version < 3; version++) {
            Check.due("the version's", book.amount(version, 1, BudgetBook.HEADS, 0), version + 1);
            Check.due("the seen one", book.outlook(version, 1, BudgetBook.HEADS, 0), 998);
            Check.due("the seen ones", book.outlook(version, 0, BudgetBook.HEADS, 0), 1008);
        }
    }

    private static void allTwelveAndOneMore() {
        BudgetBook book = new BudgetBook();
        for (int months = 1; months <= 12; months++) {
            Check.due("how many are seen then", book.closeMonth(), months);
        }
        for (int more = 0; more < 3; more++) {
            Check.thrown("all 12 are", Check.STATE, book::closeMonth);
        }
        BudgetBook other = new BudgetBook();
        Check.due("each book for itself", other.closeMonth(), 1);
    }

    private static void beforeAndBehindTheLastSeenMonth() {
        BudgetBook book = new BudgetBook();
        for (int month = 0; month < 12; month++) {
            book.set(2, 0, BudgetBook.COSTS, month, 100 + month);
            book.see(0, BudgetBook.COSTS, month, 200 + month);
        }
        Check.due("no month is seen at first", book.outlook(2, 0, BudgetBook.COSTS, 0), 100);
        for (int last = 0; last < 12; last++) {
            book.closeMonth();
            Check.due("the first", book.outlook(2, 0, BudgetBook.COSTS, 0), 200);
            Check.due("the last seen month", book.outlook(2, 0, BudgetBook.COSTS, last), 200 + last);
            if (last > 0) {
                Check.due("just before", book.outlook(2, 0, BudgetBook.COSTS, last - 1), 200 + last - 1);
            }
            if (last < 11) {
                Check.due("just behind", book.outlook(2, 0, BudgetBook.COSTS, last + 1), 100 + last + 1);
                Check.due("the last month of all", book.outlook(2, 0, BudgetBook.COSTS, 11), 111);
            }
            Check.due("as it is planned", book.amount(2, 0, BudgetBook.COSTS, last), 100 + last);
        }
    }
}
