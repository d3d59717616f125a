import java.util.Arrays;
import java.util.List;
import java.util.function.Supplier;

/** Of each argument the least and the greatest value, the next below and above, and what is thrown first. */
final class RangesTest {
    private RangesTest() {
    }

    static void run() {
        play("alone", Books::alone, Call.all(1, 0, 0));
        play("wide", Books::wide, Call.all(10, 1, 9));
        play("deep", Books::deep, Call.all(10, 9, 9));
        play("inUse", Books::inUse, Call.all(3, 2, 2));
        noLeaf();
        handedIn();
        addPlace();
        copy();
        closeMonth();
    }

    private static void play(String form, Supplier<BudgetBook> books, List<Call> calls) {
        String before = State.of(books);
        for (Call call : calls) {
            leastAndGreatest(form, books, call);
            nextBelowAndAbove(form, books, before, call);
            severalAtOnce(form, books, before, call);
        }
    }

    private static void leastAndGreatest(String form, Supplier<BudgetBook> books, Call call) {
        for (int i = 0; i < call.arguments.length; i++) {
            for (int value : call.arguments[i].accepted) {
                int[] values = call.with(i, value);
                Object answer = Check.answerOf(() -> call.on(books.get(), values));
                Check.due(form + ": " + call.name + Arrays.toString(values) + " is accepted, not " + answer,
                        answer.toString().startsWith("throws."), false);
            }
        }
    }

    private static void nextBelowAndAbove(String form, Supplier<BudgetBook> books, String before, Call call) {
        for (int i = 0; i < call.arguments.length; i++) {
            for (int value : call.arguments[i].refused) {
                refused(form, books, before, call, call.with(i, value), call.arguments[i].thrown);
            }
        }
    }

    /** Each argument in its range, below or above it, in all ways that leave one out of range at least. */
    private static void severalAtOnce(String form, Supplier<BudgetBook> books, String before, Call call) {
        int ways = 1;
        for (int i = 0; i < call.arguments.length; i++) {
            ways *= 3;
        }
        for (int way = 1; way < ways; way++) {
            int[] values = call.usual();
            Class<? extends RuntimeException> due = Check.ARGUMENT;
            for (int i = 0, digits = way; i < values.length; i++, digits /= 3) {
                if (digits % 3 != 0) {
                    values[i] = call.arguments[i].refused[digits % 3 - 1];
                    due = call.arguments[i].thrown == Check.INDEX ? Check.INDEX : due;
                }
            }
            refused(form, books, before, call, values, due);
        }
    }

    private static void refused(String form, Supplier<BudgetBook> books, String before, Call call, int[] values,
            Class<? extends RuntimeException> due) {
        Check.refused(form + ": " + call.name + Arrays.toString(values), due, books, before,
                book -> call.on(book, values));
    }

    private static boolean isOfALeaf(Call call) {
        for (Call.Argument argument : call.arguments) {
            if (argument.name.equals("leaf")) {
                return true;
            }
        }
        return false;
    }

    /** set, hold and see of each place that is no leaf; an argument out of its range is told before that. */
    private static void noLeaf() {
        String before = State.of(Books::deep);
        for (Call call : Call.all(10, 9, 9)) {
            if (isOfALeaf(call)) {
                for (int place = 0; place <= 8; place++) {
                    Call there = call.at(place);
                    refused("no leaf", Books::deep, before, there, there.usual(), Check.STATE);
                }
                severalAtOnce("no leaf", Books::deep, before, call.at(0));
            }
        }
    }

    /** What a closed leaf refuses is told after an argument out of its range, too. */
    private static void handedIn() {
        String before = State.of(Books::handedIn);
        for (Call call : Call.all(3, 2, 2)) {
            if (call.name.equals("set") || call.name.startsWith("spread")) {
                refused("handedIn", Books::handedIn, before, call, call.usual(), Check.STATE);
                severalAtOnce("handedIn", Books::handedIn, before, call);
            }
        }
    }

    private static void addPlace() {
        Call call = Call.addPlace(0, 1);
        leastAndGreatest("alone", Books::alone, call);
        nextBelowAndAbove("alone", Books::alone, State.of(Books::alone), call);
        call = Call.addPlace(0, 9);
        leastAndGreatest("nine", () -> Books.withLeaves(8), call);
        nextBelowAndAbove("nine", () -> Books.withLeaves(8), State.of(() -> Books.withLeaves(8)), call);
        // No such place is told before the 10 places are.
        call = Call.addPlace(0, 10);
        nextBelowAndAbove("wide", Books::wide, State.of(Books::wide), call);
        for (int parent = 0; parent < 10; parent++) {
            refused("wide", Books::wide, State.of(Books::wide), call, new int[] {parent}, Check.STATE);
            refused("deep", Books::deep, State.of(Books::deep), call, new int[] {parent}, Check.STATE);
        }
        // And before a leaf in use is.
        call = Call.addPlace(1, 3);
        refused("inUse", Books::inUse, State.of(Books::inUse), call, call.usual(), Check.STATE);
        nextBelowAndAbove("inUse", Books::inUse, State.of(Books::inUse), call);
    }

    private static void copy() {
        String before = State.of(Books::inUse);
        leastAndGreatestOfCopy();
        for (int version = 0; version < 3; version++) {
            Call same = Call.copy(version, version);
            // In the version 1 a leaf is closed: that is told after that both are the same.
            refused("inUse", Books::inUse, before, same, same.usual(), Check.ARGUMENT);
            nextBelowAndAbove("inUse", Books::inUse, before, same);
            severalAtOnce("inUse", Books::inUse, before, same);
        }
        for (int from = 0; from <= 2; from += 2) {
            Call closed = Call.copy(from, 1);
            refused("inUse", Books::inUse, before, closed, closed.usual(), Check.STATE);
            nextBelowAndAbove("inUse", Books::inUse, before, closed);
        }
        String beforeAlone = State.of(Books::alone);
        for (int version : new int[] {-1, 3, Integer.MIN_VALUE, Integer.MAX_VALUE}) {
            refused("the same, but no version", Books::alone, beforeAlone, Call.copy(0, 1),
                    new int[] {version, version}, Check.INDEX);
        }
    }

    private static void leastAndGreatestOfCopy() {
        for (int from = 0; from < 3; from++) {
            for (int to = 0; to < 3; to++) {
                if (from != to) {
                    Check.due("copy " + from + " to " + to, Books.wide().copy(from, to), 0);
                }
            }
        }
    }

    private static void closeMonth() {
        Supplier<BudgetBook> allSeen = () -> {
            BudgetBook book = Books.inUse();
            for (int months = 3; months <= 12; months++) {
                Check.due("closeMonth", book.closeMonth(), months);
            }
            return book;
        };
        Check.refused("one more than all 12", Check.STATE, allSeen, BudgetBook::closeMonth);
    }
}
