import java.util.function.Supplier;

/** All that a book holds, as one text; what is as in a new book is left out. */
final class State {
    private State() {
    }

    /** Some of it can only be read by changing it, and a book has 512 calls: so each part reads a book of its own. */
    static String of(Supplier<BudgetBook> books) {
        StringBuilder text = new StringBuilder();
        places(books.get(), text);
        for (int version = 0; version < 3; version++) {
            cells(books.get(), version, text);
        }
        seen(books.get(), text);
        heldAndClosed(books.get(), text);
        seasonsAndMonths(books.get(), text);
        return text.toString();
    }

    private static void places(BudgetBook book, StringBuilder text) {
        text.append("places ").append(book.places()).append('\n');
        for (int place = 0; place < book.places(); place++) {
            text.append("leaves of ").append(place).append(' ').append(book.leaves(place)).append('\n');
        }
        text.append("filled ").append(book.filled()).append('\n');
    }

    private static void cells(BudgetBook book, int version, StringBuilder text) {
        for (int leaf = 0; leaf < book.places(); leaf++) {
            if (isLeaf(book, leaf)) {
                for (int account = BudgetBook.HEADS; account <= BudgetBook.COSTS; account++) {
                    for (int month = 0; month < 12; month++) {
                        note(text, "version " + version, leaf, account, month, book.amount(version, leaf, account, month));
                    }
                }
            }
        }
    }

    private static void seen(BudgetBook book, StringBuilder text) {
        for (int leaf = 0; leaf < book.places(); leaf++) {
            if (isLeaf(book, leaf)) {
                for (int account = BudgetBook.HEADS; account <= BudgetBook.COSTS; account++) {
                    for (int month = 0; month < 12; month++) {
                        note(text, "seen", leaf, account, month, book.see(leaf, account, month, 0));
                    }
                }
            }
        }
    }

    private static void heldAndClosed(BudgetBook book, StringBuilder text) {
        for (int leaf = 0; leaf < book.places(); leaf++) {
            if (isLeaf(book, leaf)) {
                for (int month = 0; month < 12; month++) {
                    text.append(book.hold(leaf, month, false) ? "held " + leaf + " in " + month + "\n" : "");
                }
                for (int version = 0; version < 3; version++) {
                    text.append(book.takeBack(version, leaf) == 1 ? "closed " + leaf + " in " + version + "\n" : "");
                }
            }
        }
    }

    private static void seasonsAndMonths(BudgetBook book, StringBuilder text) {
        for (int month = 0; month < 12; month++) {
            int weight = book.setSeason(month, 1);
            text.append(weight == 1 ? "" : "season " + month + ": " + weight + "\n");
        }
        int open = 0;
        while (open < 12 && !Check.answerOf(book::closeMonth).equals("throws.IllegalStateException")) {
            open++;
        }
        text.append("months not seen ").append(open).append('\n');
    }

    private static void note(StringBuilder text, String where, int leaf, int account, int month, int amount) {
        if (amount != 0) {
            text.append(where).append(", leaf ").append(leaf).append(", account ").append(account)
                    .append(", month ").append(month).append(": ").append(amount).append('\n');
        }
    }

    /** A parent has the bit of another place in its set, never its own. */
    private static boolean isLeaf(BudgetBook book, int place) {
        return (book.leaves(place) >> place & 1) == 1;
    }
}
