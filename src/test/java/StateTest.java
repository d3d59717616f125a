import java.util.HashSet;
import java.util.Set;
import java.util.function.Consumer;

/** That State shows each change, so that "changes nothing" is worth something; and that questions change nothing. */
final class StateTest {
    private StateTest() {
    }

    static void run() {
        aNewBookHasNothing();
        eachChangeShows();
        questionsChangeNothing();
    }

    private static void aNewBookHasNothing() {
        Check.due("state of a new book", State.of(Books::alone),
                "places 1\nleaves of 0 1\nfilled 0\nmonths not seen 12\n");
    }

    private static void eachChangeShows() {
        Set<String> states = new HashSet<>();
        states.add(State.of(Books::inUse));
        changes(states, book -> book.addPlace(0));
        for (int leaf = 1; leaf <= 2; leaf++) {
            int of = leaf;
            for (int month = 0; month < 12; month++) {
                int in = month;
                for (int account = BudgetBook.HEADS; account <= BudgetBook.COSTS; account++) {
                    int what = account;
                    changes(states, book -> book.set(0, of, what, in, 999));
                    changes(states, book -> book.set(2, of, what, in, 999));
                    changes(states, book -> book.see(of, what, in, 999));
                }
                boolean isHeld = leaf == 1 && month == 5;
                changes(states, book -> book.hold(of, in, !isHeld));
            }
        }
        for (int month = 0; month < 12; month++) {
            int in = month;
            changes(states, book -> book.setSeason(in, 50));
        }
        changes(states, book -> book.handIn(0, 1));
        changes(states, book -> book.handIn(0, 2));
        changes(states, book -> book.handIn(1, 2));
        changes(states, book -> book.takeBack(1, 1));
        changes(states, book -> book.closeMonth());
    }

    private static void changes(Set<String> states, Consumer<BudgetBook> call) {
        Check.due("a change that shows", states.add(State.of(() -> {
            BudgetBook book = Books.inUse();
            call.accept(book);
            return book;
        })), true);
    }

    private static void questionsChangeNothing() {
        String before = State.of(Books::inUse);
        Check.due("Questions change nothing", State.of(() -> {
            BudgetBook book = Books.inUse();
            ask(book);
            return book;
        }), before);
    }

    private static void ask(BudgetBook book) {
        book.places();
        book.filled();
        for (int place = 0; place < 3; place++) {
            book.leaves(place);
            for (int version = 0; version < 3; version++) {
                for (int account = 0; account <= BudgetBook.PAY; account++) {
                    book.amount(version, place, account, 5);
                    book.outlook(version, place, account, 0);
                    book.year(version, place, account);
                    book.yearByLeaves(version, place, account);
                }
            }
            for (int part = 0; part < 4; part++) {
                book.gap(0, 2, place, part);
            }
        }
    }
}
