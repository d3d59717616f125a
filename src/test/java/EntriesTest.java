/** Promises 5 to 7: set, hold, setSeason. */
final class EntriesTest {
    private static final int[] WRONG = {-1, 12, 100, Integer.MAX_VALUE, Integer.MIN_VALUE};

    private EntriesTest() {
    }

    static void run() {
        setEachCellApart();
        setRanges();
        setThrowsInOrder();
        setOfNoLeafOrClosed();
        setOfALeafOpenedAgain();
        setOfEachClosedLeaf();
        setOfAHeldLeaf();
        hold();
        holdThrowsInOrder();
        holdOfEachMonth();
        setSeason();
        setSeasonThrowsInOrder();
    }

    private static void setEachCellApart() {
        for (int leaf = 1; leaf < 10; leaf += 4) {
            BudgetBook book = new BudgetBook();
            for (int number = 1; number < 10; number++) {
                book.addPlace(0);
            }
            int amount = 0;
            for (int version = 0; version < 3; version++) {
                for (int account = 0; account <= BudgetBook.COSTS; account++) {
                    for (int month = 0; month < 12; month++) {
                        amount++;
                        Check.due("set", book.set(version, leaf, account, month, amount), 0);
                    }
                }
            }
            Check.due("filled", book.filled(), 108);
            amount = 0;
            for (int version = 0; version < 3; version++) {
                for (int account = 0; account <= BudgetBook.COSTS; account++) {
                    for (int month = 0; month < 12; month++) {
                        amount++;
                        Check.due("amount", book.amount(version, leaf, account, month), amount);
                        Check.due("before", book.set(version, leaf, account, month, 0), amount);
                    }
                }
            }
            Check.due("filled", book.filled(), 0);
        }
    }

    private static void setRanges() {
        BudgetBook book = new BudgetBook();
        for (int account = 0; account <= BudgetBook.COSTS; account++) {
            int of = account;
            int most = account == BudgetBook.COSTS ? 1000000 : 1000;
            Check.due("most", book.set(0, 0, of, 0, most), 0);
            Check.thrown("above most", Check.ARGUMENT, () -> book.set(0, 0, of, 0, most + 1));
            Check.thrown("far above", Check.ARGUMENT, () -> book.set(0, 0, of, 0, Integer.MAX_VALUE));
            Check.thrown("below 0", Check.ARGUMENT, () -> book.set(0, 0, of, 0, -1));
            Check.thrown("far below", Check.ARGUMENT, () -> book.set(0, 0, of, 0, Integer.MIN_VALUE));
            Check.due("unchanged", book.amount(0, 0, of, 0), most);
            Check.due("least", book.set(0, 0, of, 0, 0), most);
        }
    }

    private static void setThrowsInOrder() {
        BudgetBook book = new BudgetBook();
        book.addPlace(0);
        String before = Probe.of(book, 0);
        for (int wrong : WRONG) {
            Check.thrown("version", Check.INDEX, () -> book.set(wrong, 0, 0, 0, -1));
            Check.thrown("leaf", Check.INDEX, () -> book.set(0, wrong, 0, 0, -1));
            Check.thrown("account", Check.INDEX, () -> book.set(0, 0, wrong, 0, -1));
            Check.thrown("month", Check.INDEX, () -> book.set(0, 0, 0, wrong, -1));
        }
        Check.thrown("version 3", Check.INDEX, () -> book.set(3, 1, 0, 0, 1));
        Check.thrown("place 2", Check.INDEX, () -> book.set(0, 2, 0, 0, 1));
        Check.thrown("PAY", Check.INDEX, () -> book.set(0, 1, BudgetBook.PAY, 0, 1));
        Check.thrown("account 4", Check.INDEX, () -> book.set(0, 1, 4, 0, 1));
        Check.thrown("amount before leaf", Check.ARGUMENT, () -> book.set(0, 0, 0, 0, 1001));
        Check.thrown("no leaf", Check.STATE, () -> book.set(0, 0, 0, 0, 1000));
        Check.due("nothing changed", Probe.of(book, 0), before);
    }

    private static void setOfNoLeafOrClosed() {
        BudgetBook book = new BudgetBook();
        book.addPlace(0);
        book.addPlace(0);
        book.handIn(1, 1);
        for (int account = 0; account <= BudgetBook.COSTS; account++) {
            int of = account;
            Check.thrown("closed", Check.STATE, () -> book.set(1, 1, of, 0, 1));
            Check.thrown("closed, also to 0", Check.STATE, () -> book.set(1, 1, of, 0, 0));
            Check.due("open in another version", book.set(0, 1, of, 0, 1), 0);
            Check.due("another leaf", book.set(1, 2, of, 0, 1), 0);
        }
        Check.thrown("amount before closed", Check.ARGUMENT, () -> book.set(1, 1, 0, 0, 1001));
        Check.due("filled", book.filled(), 6);
        book.hold(2, 0, true);
        Check.due("a held cell can be set", book.set(1, 2, BudgetBook.COSTS, 0, 9), 1);
    }

    private static void setOfALeafOpenedAgain() {
        BudgetBook book = new BudgetBook();
        book.set(2, 0, BudgetBook.PRICE, 11, 1000);
        book.handIn(2, 0);
        Check.thrown("closed, the same amount", Check.STATE, () -> book.set(2, 0, BudgetBook.PRICE, 11, 1000));
        Check.thrown("closed, another month", Check.STATE, () -> book.set(2, 0, BudgetBook.PRICE, 0, 0));
        book.takeBack(2, 0);
        Check.due("opened", book.set(2, 0, BudgetBook.PRICE, 11, 0), 1000);
    }

    private static void setOfEachClosedLeaf() {
        for (int version = 0; version < 3; version++) {
            for (int leaf = 1; leaf <= 9; leaf++) {
                BudgetBook book = Books.wide();
                book.handIn(version, leaf);
                for (int other = 1; other <= 9; other++) {
                    for (int in = 0; in < 3; in++) {
                        int of = other;
                        int there = in;
                        Object due = of == leaf && there == version ? "throws.IllegalStateException" : (Object) 0;
                        Check.due("set beside what is closed",
                                Check.answerOf(() -> book.set(there, of, BudgetBook.COSTS, 3, 8)), due);
                    }
                }
            }
        }
    }

    /** Only spreading leaves a held cell as it is. */
    private static void setOfAHeldLeaf() {
        BudgetBook book = new BudgetBook();
        book.hold(0, 3, true);
        Check.due("a held cell is set", book.set(1, 0, BudgetBook.COSTS, 3, 1000000), 0);
        Check.due("the amount before", book.set(1, 0, BudgetBook.COSTS, 3, 0), 1000000);
        Check.due("it is held yet", book.hold(0, 3, true), false);
        Check.due("a held cell is seen", book.see(0, BudgetBook.COSTS, 3, 4), 0);
    }

    private static void hold() {
        BudgetBook book = new BudgetBook();
        book.addPlace(0);
        book.addPlace(0);
        Check.due("hold", book.hold(1, 0, true), true);
        Check.due("hold again", book.hold(1, 0, true), false);
        Check.due("another month", book.hold(1, 11, true), true);
        Check.due("another leaf", book.hold(2, 0, true), true);
        for (int version = 0; version < 3; version++) {
            int in = version;
            Check.thrown("held in all versions", Check.STATE, () -> book.spread(in, 1, 0, 5, 1));
            Check.thrown("held in all versions", Check.STATE, () -> book.spread(in, 0, 0, 5, 1));
            Check.due("not held in another month", book.spread(version, 1, 1, 5, 1), 1);
        }
        Check.due("hold no more", book.hold(1, 0, false), true);
        Check.due("hold no more again", book.hold(1, 0, false), false);
        Check.due("the other month is held yet", book.hold(1, 11, true), false);
        Check.due("the other leaf is held yet", book.hold(2, 0, true), false);
        Check.due("free", book.spread(0, 0, 0, 5, 1), 1);
        book.handIn(0, 1);
        Check.due("a closed leaf can be held", book.hold(1, 5, true), true);
        book.takeBack(0, 1);
        Check.due("and stays held when it is opened", book.hold(1, 5, true), false);
    }

    private static void holdThrowsInOrder() {
        BudgetBook book = new BudgetBook();
        book.addPlace(0);
        for (int wrong : WRONG) {
            Check.thrown("leaf", Check.INDEX, () -> book.hold(wrong, 0, true));
            Check.thrown("month", Check.INDEX, () -> book.hold(0, wrong, true));
            Check.thrown("month", Check.INDEX, () -> book.hold(1, wrong, false));
        }
        Check.thrown("leaf 2", Check.INDEX, () -> book.hold(2, 0, true));
        Check.thrown("no leaf", Check.STATE, () -> book.hold(0, 0, true));
        Check.thrown("no leaf", Check.STATE, () -> book.hold(0, 0, false));
        Check.due("nothing is held", book.addPlace(1), 2);
    }

    /** Each leaf and month for itself; "Returns true if that changes something", in both ways. */
    private static void holdOfEachMonth() {
        BudgetBook book = Books.withLeaves(3);
        for (int month = 0; month < 12; month++) {
            for (int leaf = 1; leaf <= 3; leaf++) {
                Check.due("not held at first", book.hold(leaf, month, false), false);
                Check.due("held", book.hold(leaf, month, true), true);
                Check.due("held already", book.hold(leaf, month, true), false);
            }
        }
        for (int month = 0; month < 12; month++) {
            for (int leaf = 1; leaf <= 3; leaf++) {
                Check.due("no more", book.hold(leaf, month, false), true);
                Check.due("no more already", book.hold(leaf, month, false), false);
            }
        }
    }

    private static void setSeason() {
        BudgetBook book = new BudgetBook();
        for (int month = 0; month < 12; month++) {
            Check.due("first weight", book.setSeason(month, month * 9), 1);
        }
        for (int month = 0; month < 12; month++) {
            Check.due("weight before", book.setSeason(month, 100), month * 9);
        }
        Check.due("most", book.setSeason(5, 0), 100);
        Check.due("least", book.setSeason(5, 1), 0);
    }

    private static void setSeasonThrowsInOrder() {
        BudgetBook book = new BudgetBook();
        for (int wrong : WRONG) {
            Check.thrown("month", Check.INDEX, () -> book.setSeason(wrong, -1));
        }
        for (int wrong : new int[] {-1, 101, Integer.MAX_VALUE, Integer.MIN_VALUE}) {
            Check.thrown("weight", Check.ARGUMENT, () -> book.setSeason(3, wrong));
        }
        Check.due("unchanged", book.setSeason(3, 100), 1);
    }
}
