import java.util.function.Function;
import java.util.function.Supplier;

/** Counts what was checked and prints what is not as it is due. */
final class Check {
    static final Class<? extends RuntimeException> INDEX = IndexOutOfBoundsException.class;
    static final Class<? extends RuntimeException> ARGUMENT = IllegalArgumentException.class;
    static final Class<? extends RuntimeException> STATE = IllegalStateException.class;

    private static int passed = 0;
    private static int failed = 0;

    private Check() {
    }

    static int passed() {
        return passed;
    }

    static int failed() {
        return failed;
    }

    static void due(String what, Object answer, Object due) {
        if (due.equals(answer)) {
            passed++;
            return;
        }
        failed++;
        if (failed <= 50) {
            System.out.println("FAILED " + what + ": answered " + answer + ", due is " + due);
        }
    }

    /** A call that is to throw exactly this exception, no other and no class below it. */
    static void thrown(String what, Class<? extends RuntimeException> due, Supplier<Object> call) {
        due(what, answerOf(call), nameOf(due));
    }

    /** A call that is to throw exactly this on such a book and to change nothing of it. */
    static void refused(String what, Class<? extends RuntimeException> due, Supplier<BudgetBook> books,
            Function<BudgetBook, Object> call) {
        refused(what, due, books, State.of(books), call);
    }

    /** The same, for many calls on books whose state has been read once. */
    static void refused(String what, Class<? extends RuntimeException> due, Supplier<BudgetBook> books, String before,
            Function<BudgetBook, Object> call) {
        thrown(what, due, () -> call.apply(books.get()));
        due(what + " changes nothing", State.of(() -> {
            BudgetBook book = books.get();
            answerOf(() -> call.apply(book));
            return book;
        }), before);
    }

    /** What a call answers, or the name of what it throws. */
    static Object answerOf(Supplier<Object> call) {
        try {
            return call.get();
        } catch (RuntimeException thrown) {
            return nameOf(thrown.getClass());
        }
    }

    private static String nameOf(Class<? extends RuntimeException> kind) {
        return "throws." + kind.getSimpleName();
    }
}
