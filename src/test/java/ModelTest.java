import java.util.Arrays;
import java.util.function.Supplier;

/** All promises: the same long runs of calls on a book and on the model, answer by answer. */
final class ModelTest {
    private static final int RUNS = 1000;
    private static final int CALLS = 512;
    private static final int KINDS = 28;

    private final Dice dice;
    private final BudgetBook book = new BudgetBook();
    private final Model model = new Model();
    private final int monthsInUse;
    private final int greatest;
    private final int placesToAdd;

    private ModelTest(int run) {
        dice = new Dice(run);
        // Few months and small amounts bring ties, zeros and sums that fall short more often.
        monthsInUse = run % 3 == 0 ? 12 : 1 + run % 4;
        greatest = run % 2 == 0 ? 30 : 1000000;
        placesToAdd = run % 10;
    }

    static void run() {
        for (int run = 0; run < RUNS; run++) {
            new ModelTest(run).play(run);
        }
    }

    private void play(int run) {
        int calls = 0;
        for (; calls < placesToAdd; calls++) {
            int parent = dice.below(model.places());
            same(run, "addPlace", () -> book.addPlace(parent), () -> model.addPlace(parent), parent);
        }
        for (; calls < CALLS - 1; calls++) {
            call(run);
        }
        same(run, "filled", book::filled, model::filled);
    }

    private void call(int run) {
        int v = version();
        int w = version();
        int p = place();
        int a = account();
        int m = month();
        boolean b = dice.below(3) == 0;
        switch (dice.below(KINDS)) {
            case 0: same(run, "addPlace", () -> book.addPlace(p), () -> model.addPlace(p), p); break;
            case 1: same(run, "places", book::places, model::places); break;
            case 2: same(run, "leaves", () -> book.leaves(p), () -> model.leaves(p), p); break;
            case 3:
            case 4: setOrSee(run, v, m); break;
            case 5: same(run, "hold", () -> book.hold(p, m, b), () -> model.hold(p, m, b), p, m, b ? 1 : 0); break;
            case 6: season(run, m); break;
            case 7:
            case 8: spread(run, v, p, m); break;
            case 9: spreadYear(run, v, p); break;
            case 10: same(run, "copy", () -> book.copy(v, w), () -> model.copy(v, w), v, w); break;
            case 11: hand(run, v, p); break;
            case 12: same(run, "takeBack", () -> book.takeBack(v, p), () -> model.takeBack(v, p), v, p); break;
            case 13: setOrSee(run, v, m); break;
            case 14: close(run); break;
            case 15: same(run, "amount", () -> book.amount(v, p, a, m), () -> model.amount(v, p, a, m), v, p, a, m); break;
            case 16: same(run, "outlook", () -> book.outlook(v, p, a, m), () -> model.outlook(v, p, a, m), v, p, a, m); break;
            case 17: same(run, "year", () -> book.year(v, p, a), () -> model.year(v, p, a), v, p, a); break;
            case 18: same(run, "yearByLeaves", () -> book.yearByLeaves(v, p, a), () -> model.year(v, p, a), v, p, a); break;
            case 19: gap(run, v, w, p); break;
            default: setOrSee(run, v, m);
        }
    }

    private void setOrSee(int run, int v, int m) {
        int p = leaf();
        int a = dice.below(20) == 0 ? account() : dice.below(3);
        int amount = amountOf(a);
        if (dice.below(4) == 0) {
            same(run, "see", () -> book.see(p, a, m, amount), () -> model.see(p, a, m, amount), p, a, m, amount);
        } else {
            same(run, "set", () -> book.set(v, p, a, m, amount), () -> model.set(v, p, a, m, amount), v, p, a, m, amount);
        }
    }

    private void season(int run, int m) {
        int weight = dice.below(4) == 0 ? dice.odd(-2, 103) : dice.below(3);
        same(run, "setSeason", () -> book.setSeason(m, weight), () -> model.setSeason(m, weight), m, weight);
    }

    private void spread(int run, int v, int p, int m) {
        int sum = amountOf(2);
        int way = dice.below(20) == 0 ? dice.odd(-2, 3) : dice.below(2);
        same(run, "spread", () -> book.spread(v, p, m, sum, way), () -> model.spread(v, p, m, sum, way),
                v, p, m, sum, way);
    }

    private void spreadYear(int run, int v, int p) {
        int sum = amountOf(2);
        same(run, "spreadYear", () -> book.spreadYear(v, p, sum), () -> model.spreadYear(v, p, sum), v, p, sum);
    }

    private void hand(int run, int v, int p) {
        if (dice.below(2) == 0) {
            same(run, "handIn", () -> book.handIn(v, p), () -> model.handIn(v, p), v, p);
        } else {
            same(run, "filled", book::filled, model::filled);
        }
    }

    private void close(int run) {
        if (dice.below(3) == 0) {
            same(run, "closeMonth", book::closeMonth, model::closeMonth);
        } else {
            same(run, "filled", book::filled, model::filled);
        }
    }

    private void gap(int run, int v, int w, int p) {
        int part = dice.below(20) == 0 ? dice.odd(-2, 6) : dice.below(4);
        same(run, "gap", () -> book.gap(v, w, p, part), () -> model.gap(v, w, p, part), v, w, p, part);
    }

    private void same(int run, String call, Supplier<Object> ofBook, Supplier<Object> ofModel, int... arguments) {
        Object due = Check.answerOf(ofModel);
        Check.due("run " + run + ": " + call + Arrays.toString(arguments), Check.answerOf(ofBook), due);
    }

    private int version() {
        return dice.below(40) == 0 ? dice.odd(-2, 5) : dice.below(3);
    }

    private int place() {
        return dice.below(40) == 0 ? dice.odd(-2, 12) : dice.below(model.places());
    }

    /** Mostly a leaf: what is set elsewhere is refused. */
    private int leaf() {
        int place = place();
        for (int tries = 0; tries < 3 && model.hasChildren(place); tries++) {
            place = place();
        }
        return place;
    }

    private int account() {
        return dice.below(40) == 0 ? dice.odd(-2, 6) : dice.below(4);
    }

    private int month() {
        return dice.below(40) == 0 ? dice.odd(-2, 15) : dice.below(monthsInUse);
    }

    private int amountOf(int account) {
        int most = account == 2 ? 1000000 : 1000;
        switch (dice.below(12)) {
            case 0: return dice.odd(-3, 5);
            case 1: return dice.odd(most - 3, most + 3);
            case 2: return 0;
            default: return dice.below(Math.min(greatest, most) + 1);
        }
    }

    /** Numbers without order, the same in every run of the tests. */
    private static final class Dice {
        private long state;

        Dice(int seed) {
            state = seed * 7919L + 17;
        }

        int below(int bound) {
            state = state * 6364136223846793005L + 1442695040888963407L;
            return (int) ((state >>> 33) % bound);
        }

        /** A number of a range, or now and then one of the outermost. */
        int odd(int least, int most) {
            switch (below(10)) {
                case 0: return Integer.MIN_VALUE;
                case 1: return Integer.MAX_VALUE;
                default: return least + below(most - least + 1);
            }
        }
    }
}
