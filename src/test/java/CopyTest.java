/** Promise 10: copy. */
final class CopyTest {
    private CopyTest() {
    }

    static void run() {
        copy();
        copiesEveryCell();
        copiesTheRootAlone();
        copyAndClosed();
        throwsInOrder();
    }

    private static void copy() {
        BudgetBook book = new BudgetBook();
        book.addPlace(0);
        book.addPlace(0);
        book.set(0, 1, BudgetBook.HEADS, 0, 1);
        book.set(0, 1, BudgetBook.PRICE, 5, 2);
        book.set(0, 2, BudgetBook.COSTS, 11, 3);
        book.set(2, 1, BudgetBook.HEADS, 0, 1);
        book.set(2, 2, BudgetBook.HEADS, 7, 9);
        book.see(2, BudgetBook.HEADS, 7, 8);
        Check.due("changed", book.copy(0, 2), 3);
        Check.due("kept", book.amount(2, 1, BudgetBook.HEADS, 0), 1);
        Check.due("copied", book.amount(2, 1, BudgetBook.PRICE, 5), 2);
        Check.due("copied", book.amount(2, 2, BudgetBook.COSTS, 11), 3);
        Check.due("copied a 0", book.amount(2, 2, BudgetBook.HEADS, 7), 0);
        Check.due("seen stays", book.see(2, BudgetBook.HEADS, 7, 8), 8);
        Check.due("from stays", book.amount(0, 2, BudgetBook.COSTS, 11), 3);
        Check.due("the third stays", book.year(1, 0, BudgetBook.COSTS), 0);
        Check.due("again", book.copy(0, 2), 0);
        book.set(2, 2, BudgetBook.COSTS, 11, 4);
        Check.due("the versions are apart", book.amount(0, 2, BudgetBook.COSTS, 11), 3);
        Check.due("back", book.copy(2, 0), 1);
        Check.due("empty over all", book.copy(1, 2), 3);
    }

    private static void copiesEveryCell() {
        BudgetBook book = new BudgetBook();
        for (int number = 1; number < 10; number++) {
            book.addPlace(0);
        }
        for (int leaf = 1; leaf < 10; leaf++) {
            for (int month = 0; month < 12; month++) {
                for (int account = 0; account <= BudgetBook.COSTS; account++) {
                    book.set(0, leaf, account, month, leaf * 12 + month + account * 200);
                }
            }
        }
        Check.due("all cells", book.copy(0, 1), 324);
        Check.due("filled", book.filled(), 648);
        for (int leaf = 1; leaf < 10; leaf++) {
            Check.due("heads", book.amount(1, leaf, 0, 11), leaf * 12 + 11);
            Check.due("costs", book.amount(1, leaf, 2, 0), leaf * 12 + 400);
        }
    }

    private static void copiesTheRootAlone() {
        BudgetBook book = new BudgetBook();
        for (int version = 0; version < 3; version++) {
            book.set(version, 0, BudgetBook.HEADS, 0, version + 1);
        }
        book.see(0, BudgetBook.HEADS, 0, 4);
        Check.due("1 to 0", book.copy(1, 0), 1);
        Check.due("version 0", book.amount(0, 0, BudgetBook.HEADS, 0), 2);
        Check.due("version 2 stays", book.amount(2, 0, BudgetBook.HEADS, 0), 3);
        Check.due("0 to 2", book.copy(0, 2), 1);
        Check.due("version 1 stays", book.amount(1, 0, BudgetBook.HEADS, 0), 2);
        Check.due("version 2", book.amount(2, 0, BudgetBook.HEADS, 0), 2);
        Check.due("seen stays", book.see(0, BudgetBook.HEADS, 0, 0), 4);
    }

    private static void copyAndClosed() {
        BudgetBook book = new BudgetBook();
        book.addPlace(0);
        book.addPlace(0);
        book.set(0, 1, BudgetBook.COSTS, 3, 5);
        book.hold(1, 3, true);
        book.handIn(0, 1);
        Check.due("closed in from", book.copy(0, 1), 1);
        Check.due("a held cell is copied", book.amount(1, 1, BudgetBook.COSTS, 3), 5);
        Check.due("being closed is not copied", book.takeBack(1, 0), 0);
        book.takeBack(0, 1);
        book.handIn(1, 2);
        String before = Probe.of(book, 3);
        Check.thrown("closed in to", Check.STATE, () -> book.copy(2, 1));
        Check.due("nothing changed", Probe.of(book, 3), before);
        book.takeBack(1, 2);
        Check.due("opened", book.copy(2, 1), 1);
    }

    private static void throwsInOrder() {
        BudgetBook book = new BudgetBook();
        book.handIn(0, 0);
        for (int wrong : new int[] {-1, 3, Integer.MAX_VALUE, Integer.MIN_VALUE}) {
            Check.thrown("from", Check.INDEX, () -> book.copy(wrong, 0));
            Check.thrown("to", Check.INDEX, () -> book.copy(0, wrong));
            Check.thrown("both", Check.INDEX, () -> book.copy(wrong, wrong));
        }
        for (int version = 0; version < 3; version++) {
            int same = version;
            Check.thrown("the same", Check.ARGUMENT, () -> book.copy(same, same));
        }
        Check.thrown("closed", Check.STATE, () -> book.copy(1, 0));
    }
}
