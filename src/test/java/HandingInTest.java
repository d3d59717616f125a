/** Promises 11 and 12: handIn, takeBack. */
final class HandingInTest {
    private HandingInTest() {
    }

    static void run() {
        handInAndTakeBack();
        throwing();
    }

    private static void handInAndTakeBack() {
        BudgetBook book = new BudgetBook();
        book.addPlace(0);
        book.addPlace(0);
        book.addPlace(1);
        book.addPlace(1);
        book.set(1, 3, BudgetBook.HEADS, 0, 7);
        Check.due("all of its leaves", book.handIn(1, 1), 2);
        Check.due("again", book.handIn(1, 1), 0);
        Check.thrown("closed", Check.STATE, () -> book.set(1, 3, 0, 0, 1));
        Check.thrown("closed", Check.STATE, () -> book.set(1, 4, 2, 11, 1));
        Check.due("its cells stay", book.amount(1, 3, BudgetBook.HEADS, 0), 7);
        Check.due("not the leaves beside", book.set(1, 2, 0, 0, 1), 0);
        Check.due("not in another version", book.set(0, 3, 0, 0, 1), 0);
        Check.due("the last open one", book.handIn(1, 0), 1);
        Check.due("one of them", book.takeBack(1, 4), 1);
        Check.due("again", book.takeBack(1, 4), 0);
        Check.due("open", book.set(1, 4, 2, 11, 1), 0);
        Check.thrown("closed yet", Check.STATE, () -> book.set(1, 3, 0, 0, 1));
        Check.due("a leaf", book.handIn(1, 4), 1);
        Check.due("in another version", book.takeBack(2, 0), 0);
        Check.due("all", book.takeBack(1, 0), 3);
        Check.due("none is closed", book.copy(0, 1), 3);
        Check.due("see goes on", book.see(3, 0, 0, 1), 0);
        for (int number = 5; number < 10; number++) {
            book.addPlace(0);
        }
        Check.due("up to the tenth place", book.handIn(2, 0), 8);
        Check.due("the tenth place", book.takeBack(2, 9), 1);
        Check.due("the others", book.takeBack(2, 0), 7);
    }

    private static void throwing() {
        BudgetBook book = new BudgetBook();
        book.addPlace(0);
        for (int wrong : new int[] {-1, 3, 10, 32, Integer.MAX_VALUE, Integer.MIN_VALUE}) {
            Check.thrown("handIn version", Check.INDEX, () -> book.handIn(wrong, 0));
            Check.thrown("handIn place", Check.INDEX, () -> book.handIn(0, wrong));
        }
        Check.thrown("handIn place 2", Check.INDEX, () -> book.handIn(0, 2));
        for (int version = 0; version < 3; version++) {
            Check.due("nothing is closed", book.takeBack(version, 0), 0);
            Check.due("close", book.handIn(version, 0), 1);
        }
        for (int wrong : new int[] {-1, 3, 10, 32, Integer.MAX_VALUE, Integer.MIN_VALUE}) {
            Check.thrown("takeBack version", Check.INDEX, () -> book.takeBack(wrong, 0));
            Check.thrown("takeBack place", Check.INDEX, () -> book.takeBack(0, wrong));
        }
        Check.thrown("takeBack place 2", Check.INDEX, () -> book.takeBack(0, 2));
        for (int version = 0; version < 3; version++) {
            Check.due("nothing is opened", book.handIn(version, 0), 0);
        }
    }
}
