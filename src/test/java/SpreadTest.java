import java.util.function.Supplier;

/** Promise 8: spread. */
final class SpreadTest {
    private static final int COSTS = BudgetBook.COSTS;
    private static final int BY_FORMER = BudgetBook.BY_FORMER;
    private static final int EVENLY = BudgetBook.EVENLY;

    private SpreadTest() {
    }

    static void run() {
        byFormer();
        byFormerOfZeros();
        evenly();
        restGoesByRisingNumbersToWeightsThatAreNotZero();
        greatAmounts();
        heldAndClosed();
        tenthPlace();
        touchesNothingElse();
        cannotBeSpread();
        noFreeLeafAsAllAreHeld();
        noFreeLeafAsAllAreClosed();
        oneFreeLeafIsEnough();
        aRestOfZero();
        aRestBelowZero();
        heldAndClosedAtOnceCountsOnce();
        byFormerIfOneIsNotZero();
        allThatCanBeLeft();
        leafDeepAndLeafNear();
        throwsInOrder();
    }

    /** A book with leaves 1 to the number of amounts, with these COSTS in version 1, month 4. */
    private static BudgetBook bookOf(int... amounts) {
        BudgetBook book = new BudgetBook();
        for (int leaf = 1; leaf <= amounts.length; leaf++) {
            book.addPlace(0);
        }
        for (int leaf = 1; leaf <= amounts.length; leaf++) {
            book.set(1, leaf, COSTS, 4, amounts[leaf - 1]);
        }
        return book;
    }

    private static void costsDue(String what, BudgetBook book, int... due) {
        int sum = 0;
        for (int leaf = 1; leaf <= due.length; leaf++) {
            Check.due(what + ", leaf " + leaf, book.amount(1, leaf, COSTS, 4), due[leaf - 1]);
            sum += due[leaf - 1];
        }
        Check.due(what + ", sum", book.amount(1, 0, COSTS, 4), sum);
    }

    private static void byFormer() {
        BudgetBook book = bookOf(100, 300);
        Check.due("changed", book.spread(1, 0, 4, 1001, BY_FORMER), 2);
        costsDue("by former", book, 251, 750);
        Check.due("the same sum changes nothing", book.spread(1, 0, 4, 1001, BY_FORMER), 0);
        Check.due("to 0", book.spread(1, 0, 4, 0, BY_FORMER), 2);
        costsDue("to 0", book, 0, 0);
        book = bookOf(1, 2, 4);
        Check.due("one stays", book.spread(1, 0, 4, 8, BY_FORMER), 1);
        costsDue("8 by 1, 2, 4", book, 2, 2, 4);
        book = bookOf(7);
        Check.due("a leaf itself", book.spread(1, 1, 4, 9, BY_FORMER), 1);
        costsDue("a leaf itself", book, 9);
        book = new BudgetBook();
        Check.due("the root as a leaf", book.spread(1, 0, 4, 9, BY_FORMER), 1);
        Check.due("the root as a leaf", book.amount(1, 0, COSTS, 4), 9);
    }

    private static void byFormerOfZeros() {
        BudgetBook book = bookOf(0, 0, 0);
        Check.due("changed", book.spread(1, 0, 4, 8, BY_FORMER), 3);
        costsDue("zeros are spread evenly", book, 3, 3, 2);
        book = bookOf(0, 5, 0);
        Check.due("changed", book.spread(1, 0, 4, 8, BY_FORMER), 1);
        costsDue("not if one is not 0", book, 0, 8, 0);
        book = bookOf(0, 5, 0);
        book.hold(2, 4, true);
        Check.due("changed", book.spread(1, 0, 4, 8, BY_FORMER), 2);
        costsDue("the amount of a held leaf does not count", book, 2, 5, 1);
    }

    private static void evenly() {
        BudgetBook book = bookOf(900, 0, 5);
        Check.due("changed", book.spread(1, 0, 4, 17, EVENLY), 2);
        costsDue("evenly", book, 6, 6, 5);
        Check.due("less than leaves", book.spread(1, 0, 4, 2, EVENLY), 3);
        costsDue("less than leaves", book, 1, 1, 0);
        Check.due("none", book.spread(1, 0, 4, 0, EVENLY), 2);
        costsDue("none", book, 0, 0, 0);
    }

    private static void restGoesByRisingNumbersToWeightsThatAreNotZero() {
        BudgetBook book = bookOf(0, 1, 0, 1, 1);
        Check.due("changed", book.spread(1, 0, 4, 5, BY_FORMER), 2);
        costsDue("5 by 0, 1, 0, 1, 1", book, 0, 2, 0, 2, 1);
        book = bookOf(1, 1000000);
        Check.due("changed", book.spread(1, 0, 4, 999999, BY_FORMER), 1);
        costsDue("a small weight takes what is left", book, 1, 999998);
        book = bookOf(1, 1, 1, 1000, 1);
        Check.due("changed", book.spread(1, 0, 4, 502, BY_FORMER), 3);
        costsDue("what is left ends before the last", book, 1, 1, 0, 500, 0);
    }

    private static void greatAmounts() {
        BudgetBook book = bookOf(1000000, 1000000, 999999);
        Check.due("changed", book.spread(1, 0, 4, 1000000, BY_FORMER), 3);
        costsDue("great weights", book, 333334, 333333, 333333);
        book = bookOf(0, 0, 0);
        Check.due("changed", book.spread(1, 0, 4, 1000000, EVENLY), 3);
        costsDue("great sum", book, 333334, 333333, 333333);
    }

    private static void heldAndClosed() {
        BudgetBook book = bookOf(10, 20, 30, 40);
        book.hold(1, 4, true);
        book.handIn(1, 3);
        Check.due("changed", book.spread(1, 0, 4, 100, BY_FORMER), 0);
        costsDue("the rest is as it was", book, 10, 20, 30, 40);
        Check.due("changed", book.spread(1, 0, 4, 41, EVENLY), 2);
        costsDue("the held ones are left", book, 10, 1, 30, 0);
        Check.due("the rest is 0", book.spread(1, 0, 4, 40, BY_FORMER), 1);
        costsDue("the rest is 0", book, 10, 0, 30, 0);
        book.handIn(0, 2);
        book.hold(2, 5, true);
        Check.due("closed elsewhere, held elsewhen", book.spread(1, 2, 4, 6, BY_FORMER), 1);
        costsDue("closed elsewhere, held elsewhen", book, 10, 6, 30, 0);
        book.takeBack(1, 3);
        Check.due("opened", book.spread(1, 0, 4, 82, BY_FORMER), 2);
        costsDue("opened", book, 10, 12, 60, 0);
    }

    private static void tenthPlace() {
        BudgetBook book = bookOf(1, 2, 3, 4, 5, 6, 7, 8, 9);
        Check.due("changed", book.spread(1, 0, 4, 94, BY_FORMER), 9);
        costsDue("nine leaves", book, 3, 5, 7, 9, 10, 12, 14, 16, 18);
        book = new BudgetBook();
        for (int parent = 0; parent < 9; parent++) {
            book.addPlace(parent);
        }
        Check.due("ten deep", book.spread(2, 0, 11, 1000000, BY_FORMER), 1);
        Check.due("ten deep", book.amount(2, 9, COSTS, 11), 1000000);
    }

    private static void touchesNothingElse() {
        BudgetBook book = bookOf(0, 0);
        book.addPlace(0);
        book.addPlace(1);
        Check.thrown("1 is in use only as a parent", Check.STATE, () -> book.set(1, 1, COSTS, 4, 1));
        book.set(1, 2, COSTS, 4, 70);
        book.set(1, 3, COSTS, 4, 80);
        book.set(0, 4, COSTS, 4, 90);
        book.set(1, 4, COSTS, 3, 91);
        book.set(1, 4, BudgetBook.HEADS, 4, 92);
        book.see(4, COSTS, 4, 93);
        Check.due("below 1 alone", book.spread(1, 1, 4, 5, EVENLY), 1);
        Check.due("leaf 4", book.amount(1, 4, COSTS, 4), 5);
        Check.due("leaf 2", book.amount(1, 2, COSTS, 4), 70);
        Check.due("leaf 3", book.amount(1, 3, COSTS, 4), 80);
        Check.due("another version", book.amount(0, 4, COSTS, 4), 90);
        Check.due("another month", book.amount(1, 4, COSTS, 3), 91);
        Check.due("another account", book.amount(1, 4, BudgetBook.HEADS, 4), 92);
        Check.due("seen", book.see(4, COSTS, 4, 0), 93);
        Check.due("filled", book.filled(), 6);
    }

    private static void cannotBeSpread() {
        BudgetBook book = bookOf(10, 20);
        book.hold(1, 4, true);
        String before = Probe.of(book, 4);
        for (int way = 0; way <= 1; way++) {
            int by = way;
            Check.thrown("rest below 0", Check.STATE, () -> book.spread(1, 0, 4, 9, by));
            Check.thrown("no free leaf", Check.STATE, () -> book.spread(1, 1, 4, 10, by));
        }
        Check.due("nothing changed", Probe.of(book, 4), before);
        book.handIn(1, 2);
        Check.thrown("held and closed", Check.STATE, () -> book.spread(1, 0, 4, 30, EVENLY));
        Check.thrown("also for 0", Check.STATE, () -> book.spread(1, 2, 4, 0, EVENLY));
        Check.due("nothing changed", Probe.of(book, 4), before);
        Check.due("another version", book.spread(0, 0, 4, 30, EVENLY), 1);
    }

    private static void noFreeLeafAsAllAreHeld() {
        for (int way = BY_FORMER; way <= EVENLY; way++) {
            int by = way;
            Supplier<BudgetBook> allHeld = () -> {
                BudgetBook book = bookOf(1, 2, 3);
                for (int leaf = 1; leaf <= 3; leaf++) {
                    book.hold(leaf, 4, true);
                }
                return book;
            };
            Check.refused("less than is held", Check.STATE, allHeld, book -> book.spread(1, 0, 4, 5, by));
            Check.refused("just what is held", Check.STATE, allHeld, book -> book.spread(1, 0, 4, 6, by));
            Check.refused("more than is held", Check.STATE, allHeld, book -> book.spread(1, 0, 4, 7, by));
            Check.refused("one held leaf", Check.STATE, allHeld, book -> book.spread(1, 3, 4, 3, by));
            Check.refused("held in all versions", Check.STATE, allHeld, book -> book.spread(2, 0, 4, 0, by));
            Check.due("another month", allHeld.get().spread(1, 0, 3, 3, by), 3);
        }
    }

    private static void noFreeLeafAsAllAreClosed() {
        for (int way = BY_FORMER; way <= EVENLY; way++) {
            int by = way;
            Supplier<BudgetBook> allClosed = () -> {
                BudgetBook book = bookOf(1, 2, 3);
                book.handIn(1, 0);
                return book;
            };
            Check.refused("less than is there", Check.STATE, allClosed, book -> book.spread(1, 0, 4, 5, by));
            Check.refused("just what is there", Check.STATE, allClosed, book -> book.spread(1, 0, 4, 6, by));
            Check.refused("more than is there", Check.STATE, allClosed, book -> book.spread(1, 0, 4, 7, by));
            Check.refused("one closed leaf", Check.STATE, allClosed, book -> book.spread(1, 3, 4, 3, by));
            Check.refused("another month", Check.STATE, allClosed, book -> book.spread(1, 0, 3, 0, by));
            Check.due("another version", allClosed.get().spread(2, 0, 4, 3, by), 3);
        }
    }

    private static void oneFreeLeafIsEnough() {
        for (int free = 1; free <= 9; free++) {
            BudgetBook book = Books.wide();
            for (int leaf = 1; leaf <= 9; leaf++) {
                book.set(1, leaf, COSTS, 4, 10);
                if (leaf != free && leaf % 2 == 0) {
                    book.hold(leaf, 4, true);
                } else if (leaf != free) {
                    book.handIn(1, leaf);
                }
            }
            Check.due("it gets the rest", book.spread(1, 0, 4, 1000000, free % 2), 1);
            Check.due("it gets the rest", book.amount(1, free, COSTS, 4), 999920);
            Check.due("the sum", book.amount(1, 0, COSTS, 4), 1000000);
        }
    }

    private static void aRestOfZero() {
        for (int way = BY_FORMER; way <= EVENLY; way++) {
            BudgetBook book = bookOf(10, 20, 0, 1000000);
            book.hold(1, 4, true);
            book.handIn(1, 2);
            Check.due("all free cells are emptied", book.spread(1, 0, 4, 30, way), 1);
            costsDue("all free cells are emptied", book, 10, 20, 0, 0);
            Check.due("they are empty already", book.spread(1, 0, 4, 30, way), 0);
            Check.due("a rest of 1", book.spread(1, 0, 4, 31, way), 1);
            costsDue("a rest of 1", book, 10, 20, 1, 0);
            book = bookOf(3, 4);
            Check.due("a sum of 0, nothing held", book.spread(1, 0, 4, 0, way), 2);
            book = bookOf(0, 4);
            book.hold(1, 4, true);
            Check.due("a sum of 0, a 0 held", book.spread(1, 0, 4, 0, way), 1);
            book = bookOf(1000000, 5);
            book.hold(1, 4, true);
            Check.due("the greatest is held", book.spread(1, 0, 4, 1000000, way), 1);
            costsDue("the greatest is held", book, 1000000, 0);
        }
    }

    private static void aRestBelowZero() {
        for (int way = BY_FORMER; way <= EVENLY; way++) {
            int by = way;
            Supplier<BudgetBook> held = () -> {
                BudgetBook book = bookOf(10, 20, 0, 7);
                book.hold(1, 4, true);
                book.handIn(1, 2);
                return book;
            };
            Check.refused("a rest of -1", Check.STATE, held, book -> book.spread(1, 0, 4, 29, by));
            Check.refused("a rest of -30", Check.STATE, held, book -> book.spread(1, 0, 4, 0, by));
            Supplier<BudgetBook> heldOne = () -> {
                BudgetBook book = bookOf(1, 0);
                book.hold(1, 4, true);
                return book;
            };
            Check.refused("a sum of 0, a 1 held", Check.STATE, heldOne, book -> book.spread(1, 0, 4, 0, by));
            Supplier<BudgetBook> heldMuch = () -> {
                BudgetBook book = Books.wide();
                for (int leaf = 1; leaf <= 8; leaf++) {
                    book.set(1, leaf, COSTS, 4, 1000000);
                    book.hold(leaf, 4, true);
                }
                return book;
            };
            Check.refused("a rest of -7000000", Check.STATE, heldMuch, book -> book.spread(1, 0, 4, 1000000, by));
        }
    }

    private static void heldAndClosedAtOnceCountsOnce() {
        BudgetBook book = bookOf(10, 0);
        book.hold(1, 4, true);
        book.handIn(1, 1);
        Check.due("changed", book.spread(1, 0, 4, 15, EVENLY), 1);
        costsDue("held and closed", book, 10, 5);
        book.hold(1, 4, false);
        Check.due("changed", book.spread(1, 0, 4, 16, EVENLY), 1);
        costsDue("closed yet", book, 10, 6);
        book.hold(1, 4, true);
        book.takeBack(1, 1);
        Check.due("changed", book.spread(1, 0, 4, 17, EVENLY), 1);
        costsDue("held yet", book, 10, 7);
        book.hold(1, 4, false);
        Check.due("changed", book.spread(1, 0, 4, 17, EVENLY), 2);
        costsDue("free", book, 9, 8);
    }

    /** "BY_FORMER by their amounts, or, if all of these are 0, EVENLY": of these, the free ones. */
    private static void byFormerIfOneIsNotZero() {
        for (int full = 1; full <= 4; full++) {
            BudgetBook book = bookOf(0, 0, 0, 0);
            book.set(1, full, COSTS, 4, 1);
            Check.due("changed", book.spread(1, 0, 4, 10, BY_FORMER), 1);
            Check.due("one has it all", book.amount(1, full, COSTS, 4), 10);
            book.hold(full, 4, true);
            Check.due("changed", book.spread(1, 0, 4, 13, BY_FORMER), 3);
            for (int leaf = 1; leaf <= 4; leaf++) {
                Check.due("evenly beside the held one", book.amount(1, leaf, COSTS, 4), leaf == full ? 10 : 1);
            }
        }
    }

    /** "what is left then is given, 1 each, by rising numbers, to those whose weight is not 0" */
    private static void allThatCanBeLeft() {
        for (int sum = 0; sum <= 9; sum++) {
            BudgetBook book = bookOf(0, 7, 7, 0, 7);
            book.spread(1, 0, 4, sum, BY_FORMER);
            costsDue(sum + " by 0, 7, 7, 0, 7", book, 0, (sum + 2) / 3, (sum + 1) / 3, 0, sum / 3);
            book = bookOf(0, 7, 7, 0, 7);
            book.spread(1, 0, 4, sum, EVENLY);
            costsDue(sum + " evenly", book, (sum + 4) / 5, (sum + 3) / 5, (sum + 2) / 5, (sum + 1) / 5, sum / 5);
        }
        BudgetBook book = bookOf(1, 1, 1, 1, 1, 1, 1, 1, 1000000);
        book.spread(1, 0, 4, 999999, BY_FORMER);
        costsDue("8 are left by nine weights", book, 1, 1, 1, 1, 1, 1, 1, 1, 999991);
        book = bookOf(999999, 999999, 999999, 999999, 999999, 999999, 999999, 999999, 1000000);
        book.spread(1, 0, 4, 1000000, BY_FORMER);
        costsDue("great weights", book, 111112, 111111, 111111, 111111, 111111, 111111, 111111, 111111, 111111);
    }

    /** By the number of the leaf, not by where it is in the tree. */
    private static void leafDeepAndLeafNear() {
        BudgetBook book = Books.withLeaves(2);
        book.addPlace(1);
        book.addPlace(0);
        book.addPlace(3);
        Check.due("leaves", book.leaves(0), 0b110100);
        Check.due("changed", book.spread(1, 0, 4, 5, BY_FORMER), 3);
        Check.due("leaf 2", book.amount(1, 2, COSTS, 4), 2);
        Check.due("leaf 4", book.amount(1, 4, COSTS, 4), 2);
        Check.due("leaf 5", book.amount(1, 5, COSTS, 4), 1);
        Check.due("1 below 1 alone", book.spread(1, 1, 4, 9, BY_FORMER), 1);
        Check.due("leaf 5", book.amount(1, 5, COSTS, 4), 9);
        Check.due("leaf 4", book.amount(1, 4, COSTS, 4), 2);
    }

    private static void throwsInOrder() {
        BudgetBook book = bookOf(10);
        book.hold(1, 4, true);
        String before = Probe.of(book, 4);
        for (int wrong : new int[] {-1, 12, Integer.MAX_VALUE, Integer.MIN_VALUE}) {
            Check.thrown("version", Check.INDEX, () -> book.spread(wrong, 0, 4, -1, 2));
            Check.thrown("place", Check.INDEX, () -> book.spread(1, wrong, 4, -1, 2));
            Check.thrown("month", Check.INDEX, () -> book.spread(1, 0, wrong, -1, 2));
            Check.thrown("way", Check.ARGUMENT, () -> book.spread(1, 0, 4, 0, wrong));
        }
        Check.thrown("version 3", Check.INDEX, () -> book.spread(3, 0, 4, 20, 0));
        Check.thrown("place 2", Check.INDEX, () -> book.spread(1, 2, 4, 20, 0));
        Check.thrown("way 2", Check.ARGUMENT, () -> book.spread(1, 0, 4, 20, 2));
        for (int wrong : new int[] {-1, 1000001, Integer.MAX_VALUE, Integer.MIN_VALUE}) {
            Check.thrown("sum", Check.ARGUMENT, () -> book.spread(1, 0, 4, wrong, 0));
        }
        Check.thrown("state last", Check.STATE, () -> book.spread(1, 0, 4, 1000000, 0));
        Check.due("nothing changed", Probe.of(book, 4), before);
    }
}
