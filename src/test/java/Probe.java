/** What the questions of a book answer, as one text; small enough to be asked a few times in 512 calls. */
final class Probe {
    private Probe() {
    }

    /** All that can be asked without a change, about one month and about the years. */
    static String of(BudgetBook book, int month) {
        StringBuilder text = new StringBuilder();
        int places = book.places();
        text.append(places).append(" filled ").append(book.filled());
        for (int place = 0; place < places; place++) {
            text.append("\n").append(place).append(": ").append(book.leaves(place));
            for (int version = 0; version < 3; version++) {
                for (int account = BudgetBook.HEADS; account <= BudgetBook.COSTS; account++) {
                    text.append(' ').append(book.amount(version, place, account, month));
                }
                text.append(' ').append(book.year(version, place, BudgetBook.COSTS));
                text.append(' ').append(book.outlook(version, place, BudgetBook.PAY, month));
            }
        }
        return text.toString();
    }
}
