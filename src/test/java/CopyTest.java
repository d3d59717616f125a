import java.util.function.Supplier;

/** Promise 10: copy. */
final class CopyTest {
    private CopyTest() {
    }

    static void run() {
        copy();
        copiesEveryCell();
        copiesTheRootAlone();
        copyAndClosed();
        bothTheSame();
        eachClosedLeafRefuses();
        closedElsewhereDoesNotRefuse();
        nothingToCopy();
        greatestAmounts();
        throwsInOrder();
    }

    private static void copy() {
        BudgetBook book = new BudgetBook();
        book.addPlace(0);
        book.addPlace(0);
        book.set(0, 1, BudgetBook.HEADS, 0, 1);
        book.set(0, 1, BudgetBook.PRICE, 5, 2);
        book.set(0, 2, BudgetBook.COSTS, 11, 3);
        book.set(2, 1, BudgetBook.HEADS, 0, 1);
        book.set(2, 2, BudgetBook.HEADS, 7, 9);
        book.see(2, BudgetBook.HEADS, 7, 8);
        Check.due("changed", book.copy(0, 2), 3);
        Check.due("kept", book.amount(2, 1, BudgetBook.HEADS, 0), 1);
        Check.due("copied", book.amount(2, 1, BudgetBook.PRICE, 5), 2);
        Check.due("copied", book.amount(2, 2, BudgetBook.COSTS, 11), 3);
        Check.due("copied a 0", book.amount(2, 2, BudgetBook.HEADS, 7), 0);
        Check.due("seen stays", book.see(2, BudgetBook.HEADS, 7, 8), 8);
        Check.due("from stays", book.amount(0, 2, BudgetBook.COSTS, 11), 3);
        Check.due("the third stays", book.year(1, 0, BudgetBook.COSTS), 0);
        Check.due("again", book.copy(0, 2), 0);
        book.set(2, 2, BudgetBook.COSTS, 11, 4);
        Check.due("the versions are apart", book.amount(0, 2, BudgetBook.COSTS, 11), 3);
        Check.due("back", book.copy(2, 0), 1);
        Check.due("empty over all", book.copy(1, 2), 3);
    }

    private static void copiesEveryCell() {
        BudgetBook book = new BudgetBook();
        for (int number = 1; number < 10; number++) {
            book.addPlace(0);
        }
        for (int leaf = 1; leaf < 10; leaf++) {
            for (int month = 0; month < 12; month++) {
                for (int account = 0; account <= BudgetBook.COSTS; account++) {
                    book.set(0, leaf, account, month, leaf * 12 + month + account * 200);
                }
            }
        }
        Check.due("all cells", book.copy(0, 1), 324);
        Check.due("filled", book.filled(), 648);
        for (int leaf = 1; leaf < 10; leaf++) {
            Check.due("heads", book.amount(1, leaf, 0, 11), leaf * 12 + 11);
            Check.due("costs", book.amount(1, leaf, 2, 0), leaf * 12 + 400);
        }
    }

    private static void copiesTheRootAlone() {
        BudgetBook book = new BudgetBook();
        for (int version = 0; version < 3; version++) {
            book.set(version, 0, BudgetBook.HEADS, 0, version + 1);
        }
        book.see(0, BudgetBook.HEADS, 0, 4);
        Check.due("1 to 0", book.copy(1, 0), 1);
        Check.due("version 0", book.amount(0, 0, BudgetBook.HEADS, 0), 2);
        Check.due("version 2 stays", book.amount(2, 0, BudgetBook.HEADS, 0), 3);
        Check.due("0 to 2", book.copy(0, 2), 1);
        Check.due("version 1 stays", book.amount(1, 0, BudgetBook.HEADS, 0), 2);
        Check.due("version 2", book.amount(2, 0, BudgetBook.HEADS, 0), 2);
        Check.due("seen stays", book.see(0, BudgetBook.HEADS, 0, 0), 4);
    }

    private static void copyAndClosed() {
        BudgetBook book = new BudgetBook();
        book.addPlace(0);
        book.addPlace(0);
        book.set(0, 1, BudgetBook.COSTS, 3, 5);
        book.hold(1, 3, true);
        book.handIn(0, 1);
        Check.due("closed in from", book.copy(0, 1), 1);
        Check.due("a held cell is copied", book.amount(1, 1, BudgetBook.COSTS, 3), 5);
        Check.due("being closed is not copied", book.takeBack(1, 0), 0);
        book.takeBack(0, 1);
        book.handIn(1, 2);
        String before = Probe.of(book, 3);
        Check.thrown("closed in to", Check.STATE, () -> book.copy(2, 1));
        Check.due("nothing changed", Probe.of(book, 3), before);
        book.takeBack(1, 2);
        Check.due("opened", book.copy(2, 1), 1);
    }

    private static void bothTheSame() {
        for (int version = 0; version < 3; version++) {
            int same = version;
            Check.refused("the same", Check.ARGUMENT, Books::inUse, book -> book.copy(same, same));
            Check.refused("the same goes before closed", Check.ARGUMENT, Books::handedIn, book -> book.copy(same, same));
        }
        Check.refused("the same, but no version", Check.INDEX, Books::handedIn, book -> book.copy(3, 3));
        Check.refused("the same, but no version", Check.INDEX, Books::handedIn, book -> book.copy(-1, -1));
    }

    /** "if some leaf is closed in the version to": one of nine is enough, also if it has nothing to change. */
    private static void eachClosedLeafRefuses() {
        for (int leaf = 1; leaf <= 9; leaf++) {
            int closed = leaf;
            for (int to = 0; to < 3; to++) {
                int version = to;
                Supplier<BudgetBook> oneClosed = () -> {
                    BudgetBook book = Books.wide();
                    book.set((version + 1) % 3, 1, BudgetBook.HEADS, 0, 5);
                    book.handIn(version, closed);
                    return book;
                };
                String before = State.of(oneClosed);
                Check.refused("one closed", Check.STATE, oneClosed, before, book -> book.copy((version + 1) % 3, version));
                Check.refused("one closed", Check.STATE, oneClosed, before, book -> book.copy((version + 2) % 3, version));
                BudgetBook book = oneClosed.get();
                book.takeBack(version, closed);
                Check.due("opened", book.copy((version + 1) % 3, version), 1);
            }
        }
    }

    private static void closedElsewhereDoesNotRefuse() {
        for (int to = 0; to < 3; to++) {
            for (int from = 0; from < 3; from++) {
                if (from != to) {
                    BudgetBook book = Books.wide();
                    book.set(from, 9, BudgetBook.COSTS, 11, 1);
                    for (int version = 0; version < 3; version++) {
                        if (version != to) {
                            book.handIn(version, 0);
                        }
                    }
                    Check.due("closed in the others", book.copy(from, to), 1);
                    Check.due("open as before", book.handIn(to, 0), 9);
                }
            }
        }
    }

    private static void nothingToCopy() {
        Check.due("nothing in both", Books.wide().copy(2, 0), 0);
        BudgetBook book = Books.alone();
        book.set(1, 0, BudgetBook.PRICE, 11, 1000);
        book.set(2, 0, BudgetBook.PRICE, 11, 1000);
        Check.due("the same in both", book.copy(1, 2), 0);
        book.set(2, 0, BudgetBook.PRICE, 11, 999);
        Check.due("one less", book.copy(1, 2), 1);
        book.set(2, 0, BudgetBook.HEADS, 11, 1000);
        Check.due("one that is 0 in from", book.copy(1, 2), 1);
        Check.due("it is 0 then", book.amount(2, 0, BudgetBook.HEADS, 11), 0);
    }

    private static void greatestAmounts() {
        BudgetBook book = Books.deep();
        for (int month = 0; month < 12; month++) {
            book.set(2, 9, BudgetBook.HEADS, month, 1000);
            book.set(2, 9, BudgetBook.PRICE, month, 1000);
            book.set(2, 9, BudgetBook.COSTS, month, 1000000);
        }
        Check.due("changed", book.copy(2, 0), 36);
        Check.due("pay", book.year(0, 0, BudgetBook.PAY), 12000000);
        Check.due("costs", book.year(0, 9, BudgetBook.COSTS), 12000000);
        Check.due("filled", book.filled(), 72);
    }

    private static void throwsInOrder() {
        BudgetBook book = new BudgetBook();
        book.handIn(0, 0);
        for (int wrong : new int[] {-1, 3, Integer.MAX_VALUE, Integer.MIN_VALUE}) {
            Check.thrown("from", Check.INDEX, () -> book.copy(wrong, 0));
            Check.thrown("to", Check.INDEX, () -> book.copy(0, wrong));
            Check.thrown("both", Check.INDEX, () -> book.copy(wrong, wrong));
        }
        for (int version = 0; version < 3; version++) {
            int same = version;
            Check.thrown("the same", Check.ARGUMENT, () -> book.copy(same, same));
        }
        Check.thrown("closed", Check.STATE, () -> book.copy(1, 0));
    }
}
