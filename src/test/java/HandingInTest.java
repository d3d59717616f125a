/** Promises 11 and 12: handIn, takeBack. */
final class HandingInTest {
    private HandingInTest() {
    }

    static void run() {
        handInAndTakeBack();
        handedInAlready();
        openAlready();
        someOfThemAlready();
        eachVersionForItself();
        closedIsHeldForSpreading();
        throwing();
    }

    private static void handInAndTakeBack() {
        BudgetBook book = new BudgetBook();
        book.addPlace(0);
        book.addPlace(0);
        book.addPlace(1);
        book.addPlace(1);
        book.set(1, 3, BudgetBook.HEADS, 0, 7);
        Check.due("all of its leaves", book.handIn(1, 1), 2);
        Check.due("again", book.handIn(1, 1), 0);
        Check.thrown("closed", Check.STATE, () -> book.set(1, 3, 0, 0, 1));
        Check.thrown("closed", Check.STATE, () -> book.set(1, 4, 2, 11, 1));
        Check.due("its cells stay", book.amount(1, 3, BudgetBook.HEADS, 0), 7);
        Check.due("not the leaves beside", book.set(1, 2, 0, 0, 1), 0);
        Check.due("not in another version", book.set(0, 3, 0, 0, 1), 0);
        Check.due("the last open one", book.handIn(1, 0), 1);
        Check.due("one of them", book.takeBack(1, 4), 1);
        Check.due("again", book.takeBack(1, 4), 0);
        Check.due("open", book.set(1, 4, 2, 11, 1), 0);
        Check.thrown("closed yet", Check.STATE, () -> book.set(1, 3, 0, 0, 1));
        Check.due("a leaf", book.handIn(1, 4), 1);
        Check.due("in another version", book.takeBack(2, 0), 0);
        Check.due("all", book.takeBack(1, 0), 3);
        Check.due("none is closed", book.copy(0, 1), 3);
        Check.due("see goes on", book.see(3, 0, 0, 1), 0);
        for (int number = 5; number < 10; number++) {
            book.addPlace(0);
        }
        Check.due("up to the tenth place", book.handIn(2, 0), 8);
        Check.due("the tenth place", book.takeBack(2, 9), 1);
        Check.due("the others", book.takeBack(2, 0), 7);
    }

    private static void handedInAlready() {
        for (int version = 0; version < 3; version++) {
            BudgetBook book = Books.wide();
            Check.due("all nine", book.handIn(version, 0), 9);
            for (int place = 0; place < 10; place++) {
                Check.due("handed in already", book.handIn(version, place), 0);
            }
            Check.due("all nine are closed yet", book.takeBack(version, 0), 9);
        }
    }

    private static void openAlready() {
        for (int version = 0; version < 3; version++) {
            BudgetBook book = Books.wide();
            for (int place = 0; place < 10; place++) {
                Check.due("open at first", book.takeBack(version, place), 0);
            }
            book.handIn(version, 0);
            Check.due("all nine", book.takeBack(version, 0), 9);
            for (int place = 0; place < 10; place++) {
                Check.due("open already", book.takeBack(version, place), 0);
            }
        }
    }

    private static void someOfThemAlready() {
        for (int leaf = 1; leaf <= 9; leaf++) {
            BudgetBook book = Books.wide();
            Check.due("one", book.handIn(1, leaf), 1);
            Check.due("the eight others", book.handIn(1, 0), 8);
            Check.due("one", book.takeBack(1, leaf), 1);
            Check.due("the eight others", book.takeBack(1, 0), 8);
        }
        Check.due("the one leaf below ten places", Books.deep().handIn(0, 0), 1);
        Check.due("the place 0 as a leaf", Books.alone().handIn(0, 0), 1);
    }

    private static void eachVersionForItself() {
        for (int version = 0; version < 3; version++) {
            BudgetBook book = Books.withLeaves(2);
            book.handIn(version, 0);
            for (int other = 0; other < 3; other++) {
                Check.due("open in the others", book.takeBack(other, 1), other == version ? 1 : 0);
                Check.due("open in the others", book.handIn(other, 2), other == version ? 0 : 1);
            }
        }
    }

    private static void closedIsHeldForSpreading() {
        BudgetBook book = Books.withLeaves(2);
        book.set(0, 1, BudgetBook.COSTS, 0, 6);
        book.handIn(0, 1);
        Check.thrown("a closed leaf alone", Check.STATE, () -> book.spread(0, 1, 0, 6, BudgetBook.EVENLY));
        Check.due("beside it", book.spread(0, 0, 0, 10, BudgetBook.EVENLY), 1);
        Check.due("it stays", book.amount(0, 1, BudgetBook.COSTS, 0), 6);
        Check.due("the rest", book.amount(0, 2, BudgetBook.COSTS, 0), 4);
        Check.due("closing sets no hold", book.hold(1, 0, true), true);
        book.hold(1, 0, false);
        book.takeBack(0, 1);
        Check.due("taken back", book.spread(0, 0, 0, 20, BudgetBook.EVENLY), 2);
        Check.due("taken back", book.amount(0, 1, BudgetBook.COSTS, 0), 10);
    }

    private static void throwing() {
        BudgetBook book = new BudgetBook();
        book.addPlace(0);
        for (int wrong : new int[] {-1, 3, 10, 32, Integer.MAX_VALUE, Integer.MIN_VALUE}) {
            Check.thrown("handIn version", Check.INDEX, () -> book.handIn(wrong, 0));
            Check.thrown("handIn place", Check.INDEX, () -> book.handIn(0, wrong));
        }
        Check.thrown("handIn place 2", Check.INDEX, () -> book.handIn(0, 2));
        for (int version = 0; version < 3; version++) {
            Check.due("nothing is closed", book.takeBack(version, 0), 0);
            Check.due("close", book.handIn(version, 0), 1);
        }
        for (int wrong : new int[] {-1, 3, 10, 32, Integer.MAX_VALUE, Integer.MIN_VALUE}) {
            Check.thrown("takeBack version", Check.INDEX, () -> book.takeBack(wrong, 0));
            Check.thrown("takeBack place", Check.INDEX, () -> book.takeBack(0, wrong));
        }
        Check.thrown("takeBack place 2", Check.INDEX, () -> book.takeBack(0, 2));
        for (int version = 0; version < 3; version++) {
            Check.due("nothing is opened", book.handIn(version, 0), 0);
        }
    }
}
