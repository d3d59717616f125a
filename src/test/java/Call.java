import java.util.ArrayList;
import java.util.List;
import java.util.function.BiFunction;

/** A call of the face with the range of each argument, as the document writes them. */
final class Call {
    /** What an argument may be, what it may not, and what is thrown then. */
    static final class Argument {
        final String name;
        final int usual;
        /** The least and the greatest first. */
        final int[] accepted;
        /** The next below and the next above first. */
        final int[] refused;
        final Class<? extends RuntimeException> thrown;

        Argument(String name, int usual, int least, int greatest, int above, Class<? extends RuntimeException> thrown) {
            this.name = name;
            this.usual = usual;
            this.accepted = new int[] {least, greatest};
            this.refused = new int[] {-1, above, above + 1, Integer.MIN_VALUE, Integer.MAX_VALUE};
            this.thrown = thrown;
        }
    }

    final String name;
    final Argument[] arguments;
    private final BiFunction<BudgetBook, int[], Object> made;

    private Call(String name, BiFunction<BudgetBook, int[], Object> made, Argument... arguments) {
        this.name = name;
        this.made = made;
        this.arguments = arguments;
    }

    Object on(BudgetBook book, int[] values) {
        return made.apply(book, values);
    }

    int[] usual() {
        int[] values = new int[arguments.length];
        for (int i = 0; i < values.length; i++) {
            values[i] = arguments[i].usual;
        }
        return values;
    }

    /** The same call, with this place as its usual one. */
    Call at(int place) {
        Argument[] moved = arguments.clone();
        for (int i = 0; i < moved.length; i++) {
            Argument old = moved[i];
            if (old.name.equals("place") || old.name.equals("leaf") || old.name.equals("parent")) {
                moved[i] = new Argument(old.name, place, old.accepted[0], old.accepted[1], old.refused[1], old.thrown);
            }
        }
        return new Call(name, made, moved);
    }

    /** The usual arguments but for one. */
    int[] with(int argument, int value) {
        int[] values = usual();
        values[argument] = value;
        return values;
    }

    /** All calls with arguments, for a book of so many places; its leaves are the least, the greatest and all between. */
    static List<Call> all(int places, int leastLeaf, int greatestLeaf) {
        Argument place = new Argument("place", greatestLeaf, 0, places - 1, places, Check.INDEX);
        Argument leaf = new Argument("leaf", greatestLeaf, leastLeaf, greatestLeaf, places, Check.INDEX);
        Argument version = new Argument("version", 0, 0, 2, 3, Check.INDEX);
        Argument account = new Argument("account", 0, 0, 3, 4, Check.INDEX);
        Argument month = new Argument("month", 0, 0, 11, 12, Check.INDEX);
        Argument sum = new Argument("sum", 1000000, 0, 1000000, 1000001, Check.ARGUMENT);
        Argument way = new Argument("way", 0, 0, 1, 2, Check.ARGUMENT);
        Argument part = new Argument("part", 0, 0, 3, 4, Check.ARGUMENT);
        Argument weight = new Argument("weight", 1, 0, 100, 101, Check.ARGUMENT);

        List<Call> calls = new ArrayList<>();
        calls.add(new Call("leaves", (book, v) -> book.leaves(v[0]), place));
        for (int of = BudgetBook.HEADS; of <= BudgetBook.COSTS; of++) {
            int most = of == BudgetBook.COSTS ? 1000000 : 1000;
            // The next above is PAY.
            Argument cellAccount = new Argument("account", of, 0, 2, BudgetBook.PAY, Check.INDEX);
            Argument amount = new Argument("amount", 0, 0, most, most + 1, Check.ARGUMENT);
            calls.add(new Call("set", (book, v) -> book.set(v[0], v[1], v[2], v[3], v[4]),
                    version, leaf, cellAccount, month, amount));
            calls.add(new Call("see", (book, v) -> book.see(v[0], v[1], v[2], v[3]),
                    leaf, cellAccount, month, amount));
        }
        calls.add(new Call("hold true", (book, v) -> book.hold(v[0], v[1], true), leaf, month));
        calls.add(new Call("hold false", (book, v) -> book.hold(v[0], v[1], false), leaf, month));
        calls.add(new Call("setSeason", (book, v) -> book.setSeason(v[0], v[1]), month, weight));
        calls.add(new Call("spread", (book, v) -> book.spread(v[0], v[1], v[2], v[3], v[4]),
                version, place, month, sum, way));
        calls.add(new Call("spreadYear", (book, v) -> book.spreadYear(v[0], v[1], v[2]), version, place, sum));
        calls.add(new Call("handIn", (book, v) -> book.handIn(v[0], v[1]), version, place));
        calls.add(new Call("takeBack", (book, v) -> book.takeBack(v[0], v[1]), version, place));
        calls.add(new Call("amount", (book, v) -> book.amount(v[0], v[1], v[2], v[3]), version, place, account, month));
        calls.add(new Call("outlook", (book, v) -> book.outlook(v[0], v[1], v[2], v[3]), version, place, account, month));
        calls.add(new Call("year", (book, v) -> book.year(v[0], v[1], v[2]), version, place, account));
        calls.add(new Call("yearByLeaves", (book, v) -> book.yearByLeaves(v[0], v[1], v[2]), version, place, account));
        calls.add(new Call("gap", (book, v) -> book.gap(v[0], v[1], v[2], v[3]), version, version, place, part));
        return calls;
    }

    /** Apart from the others: whether its arguments are accepted hangs on more than their ranges. */
    static Call addPlace(int parent, int places) {
        return new Call("addPlace", (book, v) -> book.addPlace(v[0]),
                new Argument("parent", parent, 0, places - 1, places, Check.INDEX));
    }

    /** Apart from the others, too: both versions may not be the same. */
    static Call copy(int from, int to) {
        return new Call("copy", (book, v) -> book.copy(v[0], v[1]),
                new Argument("from", from, 0, 2, 3, Check.INDEX), new Argument("to", to, 0, 2, 3, Check.INDEX));
    }
}
