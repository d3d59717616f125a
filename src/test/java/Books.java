/** Books of a few forms; each is made anew, always by the same calls. */
final class Books {
    private Books() {
    }

    /** The place 0 alone. */
    static BudgetBook alone() {
        return new BudgetBook();
    }

    /** The leaves 1 to a number, all below the place 0. */
    static BudgetBook withLeaves(int leaves) {
        BudgetBook book = new BudgetBook();
        for (int leaf = 1; leaf <= leaves; leaf++) {
            book.addPlace(0);
        }
        return book;
    }

    /** Ten places, nine of them leaves. */
    static BudgetBook wide() {
        return withLeaves(9);
    }

    /** Ten places, each below the one before: 9 is the only leaf. */
    static BudgetBook deep() {
        BudgetBook book = new BudgetBook();
        for (int parent = 0; parent < 9; parent++) {
            book.addPlace(parent);
        }
        return book;
    }

    /** Leaves 1 and 2 with something of every kind: what a refused call must leave as it is. */
    static BudgetBook inUse() {
        BudgetBook book = withLeaves(2);
        for (int version = 0; version < 3; version++) {
            for (int account = BudgetBook.HEADS; account <= BudgetBook.COSTS; account++) {
                for (int leaf = 1; leaf <= 2; leaf++) {
                    book.set(version, leaf, account, 0, 100 * leaf + 10 * version + account);
                    book.set(version, leaf, account, 5, 200 * leaf + 20 * version + account);
                    book.set(version, leaf, account, 11, 300 * leaf + 30 * version + account);
                }
            }
        }
        book.see(1, BudgetBook.HEADS, 0, 41);
        book.see(2, BudgetBook.PRICE, 5, 42);
        book.see(1, BudgetBook.COSTS, 11, 43);
        book.hold(1, 5, true);
        book.handIn(1, 1);
        book.setSeason(0, 7);
        book.setSeason(11, 3);
        book.closeMonth();
        book.closeMonth();
        return book;
    }

    /** As inUse, but both leaves are closed in all versions. */
    static BudgetBook handedIn() {
        BudgetBook book = inUse();
        for (int version = 0; version < 3; version++) {
            book.handIn(version, 0);
        }
        return book;
    }
}
