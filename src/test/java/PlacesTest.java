import java.util.function.Consumer;
import java.util.function.Supplier;

/** Promises 1 to 4: a new object, addPlace, places, leaves. */
final class PlacesTest {
    private PlacesTest() {
    }

    static void run() {
        newBook();
        addPlace();
        addPlaceRefusesTheEleventh();
        addPlaceRefusesALeafInUse();
        addPlaceTakesAPlaceWithChildren();
        addPlaceLooksAtTheParentAlone();
        addPlaceThrowsInOrder();
        addPlaceThatThrowsChangesNothing();
        refusedForALeafInUseChangesNothing();
        tenPlacesBelowOneAnother();
        closedMonthsDoNotKeepALeaf();
        aNewLeafIsAsNew();
        leaves();
        leavesOfTenPlaces();
        the512thCall();
    }

    private static void newBook() {
        BudgetBook book = new BudgetBook();
        Check.due("new places", book.places(), 1);
        Check.due("new leaves", book.leaves(0), 1);
        Check.due("new filled", book.filled(), 0);
        for (int version = 0; version < 3; version++) {
            for (int account = 0; account <= BudgetBook.PAY; account++) {
                Check.due("new year", book.year(version, 0, account), 0);
            }
            Check.due("new open", book.takeBack(version, 0), 0);
        }
        for (int month = 0; month < 12; month++) {
            Check.due("new season", book.setSeason(month, 1), 1);
            Check.due("new held", book.hold(0, month, false), false);
        }
        Check.due("new months", book.closeMonth(), 1);
        BudgetBook other = new BudgetBook();
        book.addPlace(0);
        Check.due("books are apart", other.places(), 1);
    }

    private static void addPlace() {
        BudgetBook book = new BudgetBook();
        for (int number = 1; number < 10; number++) {
            Check.due("addPlace", book.addPlace((number - 1) / 2), number);
            Check.due("places", book.places(), number + 1);
        }
    }

    private static void addPlaceRefusesTheEleventh() {
        BudgetBook book = new BudgetBook();
        for (int number = 1; number < 10; number++) {
            book.addPlace(0);
        }
        Check.thrown("eleventh below the root", Check.STATE, () -> book.addPlace(0));
        Check.thrown("eleventh below a leaf", Check.STATE, () -> book.addPlace(9));
        Check.due("places", book.places(), 10);
        Check.due("leaves", book.leaves(0), 0b1111111110);
    }

    private static void addPlaceRefusesALeafInUse() {
        for (int account = 0; account <= BudgetBook.COSTS; account++) {
            for (int version = 0; version < 4; version++) {
                for (int month = 0; month < 12; month++) {
                    BudgetBook book = new BudgetBook();
                    book.addPlace(0);
                    put(book, version, account, month, 1);
                    Check.thrown("a filled leaf", Check.STATE, () -> book.addPlace(1));
                    put(book, version, account, month, 0);
                    Check.due("an emptied leaf", book.addPlace(1), 2);
                }
            }
        }
        for (int month = 0; month < 12; month++) {
            BudgetBook book = new BudgetBook();
            book.hold(0, month, true);
            Check.thrown("a held leaf", Check.STATE, () -> book.addPlace(0));
            book.hold(0, month, false);
            Check.due("a leaf no more held", book.addPlace(0), 1);
        }
        for (int version = 0; version < 3; version++) {
            BudgetBook book = new BudgetBook();
            book.handIn(version, 0);
            Check.thrown("a closed leaf", Check.STATE, () -> book.addPlace(0));
            book.takeBack(version, 0);
            Check.due("an opened leaf", book.addPlace(0), 1);
        }
    }

    /** The version 3 stands for the seen cells. */
    private static void put(BudgetBook book, int version, int account, int month, int amount) {
        if (version == 3) {
            book.see(1, account, month, amount);
        } else {
            book.set(version, 1, account, month, amount);
        }
    }

    private static void addPlaceTakesAPlaceWithChildren() {
        BudgetBook book = new BudgetBook();
        book.addPlace(0);
        book.set(0, 1, BudgetBook.COSTS, 0, 5);
        book.hold(1, 3, true);
        book.handIn(2, 0);
        Check.due("a parent with a leaf in use", book.addPlace(0), 2);
        Check.due("the new leaf is open", book.handIn(2, 2), 1);
        Check.due("the new leaf is not held", book.hold(2, 3, false), false);
    }

    private static void addPlaceLooksAtTheParentAlone() {
        BudgetBook book = new BudgetBook();
        book.addPlace(0);
        book.addPlace(0);
        book.addPlace(0);
        for (int month = 0; month < 12; month++) {
            for (int account = 0; account <= BudgetBook.COSTS; account++) {
                for (int version = 0; version < 3; version++) {
                    book.set(version, 1, account, month, 1);
                    book.set(version, 3, account, month, 1);
                }
                book.see(1, account, month, 1);
                book.see(3, account, month, 1);
            }
            book.hold(1, month, true);
            book.hold(3, month, true);
        }
        for (int version = 0; version < 3; version++) {
            book.handIn(version, 1);
            book.handIn(version, 3);
        }
        Check.due("between leaves in use", book.addPlace(2), 4);
    }

    private static void addPlaceThrowsInOrder() {
        BudgetBook book = new BudgetBook();
        for (int parent : new int[] {-1, 1, 9, 10, 31, 32, 33, Integer.MAX_VALUE, Integer.MIN_VALUE}) {
            Check.thrown("no such parent", Check.INDEX, () -> book.addPlace(parent));
        }
        for (int number = 1; number < 10; number++) {
            book.addPlace(0);
        }
        Check.thrown("no such parent in a full book", Check.INDEX, () -> book.addPlace(10));
        Check.thrown("no such parent in a full book", Check.INDEX, () -> book.addPlace(-1));
    }

    private static void addPlaceThatThrowsChangesNothing() {
        BudgetBook book = new BudgetBook();
        book.addPlace(0);
        book.set(1, 1, BudgetBook.COSTS, 2, 7);
        String before = Probe.of(book, 2);
        Check.thrown("no such parent", Check.INDEX, () -> book.addPlace(2));
        Check.thrown("a filled leaf", Check.STATE, () -> book.addPlace(1));
        Check.due("nothing changed", Probe.of(book, 2), before);
        Check.due("it is a leaf yet", book.set(1, 1, BudgetBook.COSTS, 2, 0), 7);
    }

    private static void leaves() {
        BudgetBook book = new BudgetBook();
        Check.due("the root alone", book.leaves(0), 0b1);
        book.addPlace(0);
        Check.due("below the root", book.leaves(0), 0b10);
        Check.due("itself", book.leaves(1), 0b10);
        book.addPlace(0);
        book.addPlace(1);
        book.addPlace(2);
        book.addPlace(1);
        book.addPlace(3);
        Check.due("all", book.leaves(0), 0b1110000);
        Check.due("of 1", book.leaves(1), 0b1100000);
        Check.due("of 2", book.leaves(2), 0b0010000);
        Check.due("of 3", book.leaves(3), 0b1000000);
        Check.due("of 4", book.leaves(4), 0b0010000);
        Check.due("of 6", book.leaves(6), 0b1000000);
        for (int place : new int[] {-1, 7, 9, 10, Integer.MAX_VALUE, Integer.MIN_VALUE}) {
            Check.thrown("no such place", Check.INDEX, () -> book.leaves(place));
        }
    }

    private static void refusedForALeafInUseChangesNothing() {
        refused("held", book -> book.hold(1, 11, true));
        for (int way = 0; way < 4; way++) {
            int version = way;
            for (int account = BudgetBook.HEADS; account <= BudgetBook.COSTS; account++) {
                int of = account;
                refused("filled", book -> put(book, version, of, 11, 1));
            }
            if (version < 3) {
                refused("closed", book -> book.handIn(version, 1));
                refused("closed with all others", book -> book.handIn(version, 0));
            }
        }
    }

    private static void refused(String what, Consumer<BudgetBook> use) {
        Supplier<BudgetBook> used = () -> {
            BudgetBook book = Books.withLeaves(2);
            Check.due("not in use yet", book.leaves(1), 0b10);
            use.accept(book);
            return book;
        };
        Check.refused(what, Check.STATE, used, book -> book.addPlace(1));
        Supplier<BudgetBook> usedAndFull = () -> {
            BudgetBook book = used.get();
            for (int number = 3; number < 10; number++) {
                Check.due("below a place with children", book.addPlace(0), number);
            }
            return book;
        };
        Check.refused(what + ", and 10 places", Check.STATE, usedAndFull, book -> book.addPlace(1));
        Check.refused(what + ", and 10 places", Check.STATE, usedAndFull, book -> book.addPlace(9));
    }

    /** "each but the place 0 has a parent, an earlier place": the one before, down to the tenth. */
    private static void tenPlacesBelowOneAnother() {
        BudgetBook book = new BudgetBook();
        for (int parent = 0; parent < 9; parent++) {
            int itself = parent + 1;
            Check.thrown("a place that is not there yet", Check.INDEX, () -> book.addPlace(itself));
            Check.due("below the one before", book.addPlace(parent), itself);
        }
        Check.thrown("the eleventh", Check.STATE, () -> book.addPlace(9));
        Check.thrown("no such place goes before 10 places", Check.INDEX, () -> book.addPlace(10));
        Check.due("places", book.places(), 10);
    }

    /** A month that is seen is no cell that is seen. */
    private static void closedMonthsDoNotKeepALeaf() {
        BudgetBook book = new BudgetBook();
        for (int months = 1; months <= 12; months++) {
            book.closeMonth();
        }
        book.see(0, BudgetBook.COSTS, 0, 0);
        book.setSeason(0, 0);
        Check.due("all months seen", book.addPlace(0), 1);
        book.see(1, BudgetBook.HEADS, 11, 1);
        Check.thrown("a seen cell", Check.STATE, () -> book.addPlace(1));
        book.see(1, BudgetBook.HEADS, 11, 0);
        Check.due("no more", book.addPlace(1), 2);
    }

    private static void aNewLeafIsAsNew() {
        BudgetBook book = new BudgetBook();
        book.set(0, 0, BudgetBook.COSTS, 0, 1000000);
        book.set(0, 0, BudgetBook.COSTS, 0, 0);
        book.addPlace(0);
        Check.due("nothing is filled", book.filled(), 0);
        Check.due("its cell", book.set(0, 1, BudgetBook.COSTS, 0, 7), 0);
        Check.due("the parent has its leaf's amount", book.amount(0, 0, BudgetBook.COSTS, 0), 7);
        Check.due("the parent is no leaf more", book.leaves(0), 0b10);
        book.handIn(0, 0);
        book.addPlace(0);
        Check.due("a leaf added below a place handed in is open", book.set(0, 2, BudgetBook.COSTS, 0, 5), 0);
        Check.due("one is closed by handing in once more", book.handIn(0, 0), 1);
    }

    private static void leavesOfTenPlaces() {
        for (int place = 0; place < 10; place++) {
            Check.due("one below another", Books.deep().leaves(place), 1 << 9);
            Check.due("all below the place 0", Books.wide().leaves(place), place == 0 ? 0b1111111110 : 1 << place);
        }
    }

    private static void the512thCall() {
        BudgetBook book = new BudgetBook();
        for (int call = 1; call <= 511; call++) {
            Check.due("set", book.set(call % 3, 0, BudgetBook.COSTS, 0, call), call <= 3 ? 0 : call - 3);
        }
        Check.due("the 512th call", book.set(512 % 3, 0, BudgetBook.COSTS, 0, 0), 509);
    }
}
