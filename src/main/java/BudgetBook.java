/** A planning book: places in a tree with heads, prices and costs by month, in versions. */
public final class BudgetBook {
    public static final int NONE = -1;
    public static final int HEADS = 0, PRICE = 1, COSTS = 2, PAY = 3;
    public static final int BY_FORMER = 0, EVENLY = 1;

    private static final int MOST_PLACES = 10;
    private static final int MONTHS = 12;
    private static final int VERSIONS = 3;
    // The seen cells have the form of a version's, so they lie behind the versions as one layer more.
    private static final int SEEN = VERSIONS;
    private static final int LAYERS = VERSIONS + 1;
    // PAY has no cells.
    private static final int CELL_ACCOUNTS = 3;
    private static final int MOST_HEADS_OR_PRICE = 1000;
    private static final int MOST_COSTS = 1000000;
    private static final int MOST_WEIGHT = 100;
    private static final int WHOLE = 0, BY_AMOUNT = 1, BY_PRICE = 2, BY_BOTH = 3;

    private final Tree tree;
    private final Cells cells;
    // A set of places is an int with bit p for the place p.
    private final int[] heldLeavesByMonth;
    private final int[] closedLeavesByVersion;
    private final Shares seasons;
    private final Shares leafShares;
    private int seenMonths;

    public BudgetBook() {
        tree = new Tree();
        cells = new Cells();
        heldLeavesByMonth = new int[MONTHS];
        closedLeavesByVersion = new int[VERSIONS];
        seasons = new Shares();
        leafShares = new Shares();
        seenMonths = 0;
        for (int month = 0; month < MONTHS; month++) {
            seasons.weigh(month, 1);
        }
    }

    // ---- places

    public int addPlace(int parent) throws IndexOutOfBoundsException, IllegalStateException {
        checkPlace(parent);
        if (tree.isFull()) {
            throw new IllegalStateException("there are 10 places");
        }
        if (tree.isLeaf(parent) && isInUse(parent)) {
            throw new IllegalStateException("the parent is a leaf in use");
        }
        return tree.addBelow(parent);
    }

    public int places() {
        return tree.size();
    }

    public int leaves(int place) throws IndexOutOfBoundsException {
        checkPlace(place);
        return tree.leavesBelow(place);
    }

    // ---- entries

    public int set(int version, int leaf, int account, int month, int amount)
            throws IndexOutOfBoundsException, IllegalArgumentException, IllegalStateException {
        checkVersion(version);
        checkPlace(leaf);
        checkCellAccount(account);
        checkMonth(month);
        checkUpTo(amount, mostOf(account));
        checkLeaf(leaf);
        if (isIn(closedLeavesByVersion[version], leaf)) {
            throw new IllegalStateException("the leaf is closed in the version");
        }
        return cells.put(version, leaf, account, month, amount);
    }

    public boolean hold(int leaf, int month, boolean isHeld)
            throws IndexOutOfBoundsException, IllegalStateException {
        checkPlace(leaf);
        checkMonth(month);
        checkLeaf(leaf);
        int before = heldLeavesByMonth[month];
        int after = isHeld ? before | 1 << leaf : before & ~(1 << leaf);
        heldLeavesByMonth[month] = after;
        return after != before;
    }

    public int setSeason(int month, int weight) throws IndexOutOfBoundsException, IllegalArgumentException {
        checkMonth(month);
        checkUpTo(weight, MOST_WEIGHT);
        return seasons.weigh(month, weight);
    }

    public int spread(int version, int place, int month, int sum, int way)
            throws IndexOutOfBoundsException, IllegalArgumentException, IllegalStateException {
        checkVersion(version);
        checkPlace(place);
        checkMonth(month);
        checkUpTo(sum, MOST_COSTS);
        checkUpTo(way, EVENLY);
        int leaves = tree.leavesBelow(place);
        checkSpreadable(version, leaves, month, sum);
        return spreadOver(version, leaves, month, sum, way);
    }

    public int spreadYear(int version, int place, int sum)
            throws IndexOutOfBoundsException, IllegalArgumentException, IllegalStateException {
        checkVersion(version);
        checkPlace(place);
        checkUpTo(sum, MOST_COSTS);
        if (seasons.totalWeight() == 0) {
            throw new IllegalStateException("all weights of the seasons are 0");
        }
        int leaves = tree.leavesBelow(place);
        seasons.divide(sum);
        // All months are looked at before the first is changed: a refused call leaves no trace.
        for (int month = 0; month < MONTHS; month++) {
            checkSpreadable(version, leaves, month, seasons.shareOf(month));
        }
        int changed = 0;
        for (int month = 0; month < MONTHS; month++) {
            changed += spreadOver(version, leaves, month, seasons.shareOf(month), BY_FORMER);
        }
        return changed;
    }

    public int copy(int from, int to)
            throws IndexOutOfBoundsException, IllegalArgumentException, IllegalStateException {
        checkVersion(from);
        checkVersion(to);
        if (from == to) {
            throw new IllegalArgumentException("both versions are the same");
        }
        if (closedLeavesByVersion[to] != 0) {
            throw new IllegalStateException("some leaf is closed in the version to copy to");
        }
        return cells.copyLayer(from, to);
    }

    // ---- handing in

    public int handIn(int version, int place) throws IndexOutOfBoundsException {
        checkVersion(version);
        checkPlace(place);
        int closing = tree.leavesBelow(place) & ~closedLeavesByVersion[version];
        closedLeavesByVersion[version] |= closing;
        return Integer.bitCount(closing);
    }

    public int takeBack(int version, int place) throws IndexOutOfBoundsException {
        checkVersion(version);
        checkPlace(place);
        int opening = tree.leavesBelow(place) & closedLeavesByVersion[version];
        closedLeavesByVersion[version] &= ~opening;
        return Integer.bitCount(opening);
    }

    // ---- months

    public int see(int leaf, int account, int month, int amount)
            throws IndexOutOfBoundsException, IllegalArgumentException, IllegalStateException {
        checkPlace(leaf);
        checkCellAccount(account);
        checkMonth(month);
        checkUpTo(amount, mostOf(account));
        checkLeaf(leaf);
        return cells.put(SEEN, leaf, account, month, amount);
    }

    public int closeMonth() throws IllegalStateException {
        if (seenMonths >= MONTHS) {
            throw new IllegalStateException("all 12 months are seen");
        }
        seenMonths++;
        return seenMonths;
    }

    // ---- amounts

    public int amount(int version, int place, int account, int month) throws IndexOutOfBoundsException {
        checkVersion(version);
        checkPlace(place);
        checkAccount(account);
        checkMonth(month);
        return cells.sumOver(version, tree.leavesBelow(place), account, month);
    }

    public int outlook(int version, int place, int account, int month) throws IndexOutOfBoundsException {
        checkVersion(version);
        checkPlace(place);
        checkAccount(account);
        checkMonth(month);
        int layer = month < seenMonths ? SEEN : version;
        return cells.sumOver(layer, tree.leavesBelow(place), account, month);
    }

    public int year(int version, int place, int account) throws IndexOutOfBoundsException {
        checkVersion(version);
        checkPlace(place);
        checkAccount(account);
        int leaves = tree.leavesBelow(place);
        int sum = 0;
        for (int month = 0; month < MONTHS; month++) {
            sum += cells.sumOver(version, leaves, account, month);
        }
        return sum;
    }

    public int yearByLeaves(int version, int place, int account) throws IndexOutOfBoundsException {
        checkVersion(version);
        checkPlace(place);
        checkAccount(account);
        int leaves = tree.leavesBelow(place);
        int sum = 0;
        for (int leaf = 0; leaf < MOST_PLACES; leaf++) {
            if (isIn(leaves, leaf)) {
                sum += cells.yearOf(version, leaf, account);
            }
        }
        return sum;
    }

    public int filled() {
        return cells.countFilled();
    }

    // ---- comparing

    public int gap(int one, int other, int place, int part)
            throws IndexOutOfBoundsException, IllegalArgumentException {
        checkVersion(one);
        checkVersion(other);
        checkPlace(place);
        checkUpTo(part, BY_BOTH);
        int leaves = tree.leavesBelow(place);
        int sum = 0;
        for (int leaf = 0; leaf < MOST_PLACES; leaf++) {
            if (isIn(leaves, leaf)) {
                sum += gapOfLeaf(one, other, leaf, part);
            }
        }
        return sum;
    }

    private int gapOfLeaf(int one, int other, int leaf, int part) {
        int sum = 0;
        for (int month = 0; month < MONTHS; month++) {
            int heads = cells.at(one, leaf, HEADS, month);
            int price = cells.at(one, leaf, PRICE, month);
            int otherHeads = cells.at(other, leaf, HEADS, month);
            int otherPrice = cells.at(other, leaf, PRICE, month);
            sum += gapPart(heads, price, otherHeads, otherPrice, part);
        }
        return sum;
    }

    private static int gapPart(int heads, int price, int otherHeads, int otherPrice, int part) {
        switch (part) {
            case WHOLE:
                return otherHeads * otherPrice - heads * price;
            case BY_AMOUNT:
                return (otherHeads - heads) * price;
            case BY_PRICE:
                return heads * (otherPrice - price);
            default:
                return (otherHeads - heads) * (otherPrice - price);
        }
    }

    private boolean isInUse(int leaf) {
        int heldOrClosed = 0;
        for (int month = 0; month < MONTHS; month++) {
            heldOrClosed |= heldLeavesByMonth[month];
        }
        for (int version = 0; version < VERSIONS; version++) {
            heldOrClosed |= closedLeavesByVersion[version];
        }
        return isIn(heldOrClosed, leaf) || !cells.isBlank(leaf);
    }

    // ---- spreading

    private int freeAmong(int leaves, int version, int month) {
        return leaves & ~heldLeavesByMonth[month] & ~closedLeavesByVersion[version];
    }

    private int restOf(int sum, int version, int leaves, int month) {
        int held = leaves & ~freeAmong(leaves, version, month);
        return sum - cells.sumOver(version, held, COSTS, month);
    }

    private void checkSpreadable(int version, int leaves, int month, int sum) {
        if (freeAmong(leaves, version, month) == 0) {
            throw new IllegalStateException("there is no free leaf");
        }
        if (restOf(sum, version, leaves, month) < 0) {
            throw new IllegalStateException("the held cells have more than the sum");
        }
    }

    private int spreadOver(int version, int leaves, int month, int sum, int way) {
        int free = freeAmong(leaves, version, month);
        weighLeaves(version, free, month, way);
        leafShares.divide(restOf(sum, version, leaves, month));
        int changed = 0;
        for (int leaf = 0; leaf < MOST_PLACES; leaf++) {
            if (isIn(free, leaf)) {
                int share = leafShares.shareOf(leaf);
                int before = cells.put(version, leaf, COSTS, month, share);
                changed += share != before ? 1 : 0;
            }
        }
        return changed;
    }

    private void weighLeaves(int version, int free, int month, int way) {
        boolean isEven = way == EVENLY || cells.sumOver(version, free, COSTS, month) == 0;
        for (int leaf = 0; leaf < MOST_PLACES; leaf++) {
            int weight = 0;
            if (isIn(free, leaf)) {
                weight = isEven ? 1 : cells.at(version, leaf, COSTS, month);
            }
            leafShares.weigh(leaf, weight);
        }
    }

    // ---- tests of arguments

    private static void checkVersion(int version) {
        if (version < 0 || version >= VERSIONS) {
            throw new IndexOutOfBoundsException("there is no such version");
        }
    }

    private void checkPlace(int place) {
        if (!tree.has(place)) {
            throw new IndexOutOfBoundsException("there is no such place");
        }
    }

    private static void checkAccount(int account) {
        if (account < HEADS || account > PAY) {
            throw new IndexOutOfBoundsException("there is no such account");
        }
    }

    private static void checkCellAccount(int account) {
        if (account < HEADS || account >= CELL_ACCOUNTS) {
            throw new IndexOutOfBoundsException("there is no such account with cells");
        }
    }

    private static void checkMonth(int month) {
        if (month < 0 || month >= MONTHS) {
            throw new IndexOutOfBoundsException("there is no such month");
        }
    }

    private static void checkUpTo(int value, int most) {
        if (value < 0 || value > most) {
            throw new IllegalArgumentException("an argument is out of its range");
        }
    }

    private void checkLeaf(int place) {
        if (!tree.isLeaf(place)) {
            throw new IllegalStateException("the place is no leaf");
        }
    }

    private static int mostOf(int account) {
        return account == COSTS ? MOST_COSTS : MOST_HEADS_OR_PRICE;
    }

    private static boolean isIn(int placeSet, int place) {
        return (placeSet >> place & 1) != 0;
    }

    /** The places, each but the place 0 below an earlier one. */
    private static final class Tree {
        private final int[] parents = new int[MOST_PLACES];
        private int count = 1;
        private int placesWithChildren = 0;

        int size() {
            return count;
        }

        boolean has(int place) {
            return place >= 0 && place < count;
        }

        boolean isFull() {
            return count >= MOST_PLACES;
        }

        boolean isLeaf(int place) {
            return !isIn(placesWithChildren, place);
        }

        int addBelow(int parent) {
            int place = count;
            parents[place] = parent;
            placesWithChildren |= 1 << parent;
            count++;
            return place;
        }

        int leavesBelow(int place) {
            int found = 1 << place;
            // One pass is enough: a parent has a lower number than its children.
            for (int lower = place + 1; lower < count; lower++) {
                if (isIn(found, parents[lower])) {
                    found |= 1 << lower;
                }
            }
            return found & ~placesWithChildren;
        }
    }

    /** The amounts of all cells, in one layer for each version and one for what was seen. */
    private static final class Cells {
        private static final int LEAF_SIZE = CELL_ACCOUNTS * MONTHS;
        private static final int LAYER_SIZE = MOST_PLACES * LEAF_SIZE;

        private final int[] amounts = new int[LAYERS * LAYER_SIZE];

        private static int indexOf(int layer, int leaf, int account, int month) {
            return layer * LAYER_SIZE + leaf * LEAF_SIZE + account * MONTHS + month;
        }

        int at(int layer, int leaf, int account, int month) {
            return amounts[indexOf(layer, leaf, account, month)];
        }

        int put(int layer, int leaf, int account, int month, int amount) {
            int index = indexOf(layer, leaf, account, month);
            int before = amounts[index];
            amounts[index] = amount;
            return before;
        }

        int valueOf(int layer, int leaf, int account, int month) {
            if (account == PAY) {
                return at(layer, leaf, HEADS, month) * at(layer, leaf, PRICE, month);
            }
            return at(layer, leaf, account, month);
        }

        int sumOver(int layer, int leaves, int account, int month) {
            int sum = 0;
            for (int leaf = 0; leaf < MOST_PLACES; leaf++) {
                if (isIn(leaves, leaf)) {
                    sum += valueOf(layer, leaf, account, month);
                }
            }
            return sum;
        }

        int yearOf(int layer, int leaf, int account) {
            int sum = 0;
            for (int month = 0; month < MONTHS; month++) {
                sum += valueOf(layer, leaf, account, month);
            }
            return sum;
        }

        int copyLayer(int from, int to) {
            int changed = 0;
            for (int offset = 0; offset < LAYER_SIZE; offset++) {
                int amount = amounts[from * LAYER_SIZE + offset];
                int index = to * LAYER_SIZE + offset;
                changed += amounts[index] != amount ? 1 : 0;
                amounts[index] = amount;
            }
            return changed;
        }

        boolean isBlank(int leaf) {
            for (int layer = 0; layer < LAYERS; layer++) {
                for (int offset = 0; offset < LEAF_SIZE; offset++) {
                    if (amounts[layer * LAYER_SIZE + leaf * LEAF_SIZE + offset] != 0) {
                        return false;
                    }
                }
            }
            return true;
        }

        int countFilled() {
            int filledCells = 0;
            for (int index = 0; index < amounts.length; index++) {
                filledCells += amounts[index] != 0 ? 1 : 0;
            }
            return filledCells;
        }
    }

    /** Weights with the share that each has of an amount: a row long enough for months and for places. */
    private static final class Shares {
        private final int[] weights = new int[MONTHS];
        private final int[] shares = new int[MONTHS];

        int weigh(int index, int weight) {
            int before = weights[index];
            weights[index] = weight;
            return before;
        }

        int shareOf(int index) {
            return shares[index];
        }

        int totalWeight() {
            int total = 0;
            for (int index = 0; index < MONTHS; index++) {
                total += weights[index];
            }
            return total;
        }

        void divide(int amount) {
            int total = totalWeight();
            int left = amount;
            for (int index = 0; index < MONTHS; index++) {
                // An amount times a weight is too great for an int.
                shares[index] = total == 0 ? 0 : (int) ((long) amount * weights[index] / total);
                left -= shares[index];
            }
            for (int index = 0; index < MONTHS; index++) {
                if (left > 0 && weights[index] != 0) {
                    shares[index]++;
                    left--;
                }
            }
        }
    }
}
