import java.math.BigInteger;
import java.util.ArrayList;
import java.util.HashMap;
import java.util.HashSet;
import java.util.List;
import java.util.Map;
import java.util.Set;

/** The document once more, in another form: maps and lists, as slow and plain as its sentences. */
final class Model {
    private final List<Integer> parents = new ArrayList<>();
    private final Map<String, Integer> cells = new HashMap<>();
    private final Set<String> held = new HashSet<>();
    private final Set<String> closed = new HashSet<>();
    private final List<Integer> seasons = new ArrayList<>();
    private int seen = 0;

    Model() {
        parents.add(null);
        for (int month = 0; month < 12; month++) {
            seasons.add(1);
        }
    }

    boolean hasChildren(int place) {
        return parents.contains(place);
    }

    int addPlace(int parent) {
        index(isPlace(parent));
        state(parents.size() < 10);
        if (isLeaf(parent)) {
            for (String key : cells.keySet()) {
                state(!key.split(" ")[1].equals("" + parent) || cells.get(key) == 0);
            }
            for (int month = 0; month < 12; month++) {
                state(!held.contains(parent + " " + month));
            }
            for (int version = 0; version < 3; version++) {
                state(!closed.contains(version + " " + parent));
            }
        }
        parents.add(parent);
        return parents.size() - 1;
    }

    int places() {
        return parents.size();
    }

    int leaves(int place) {
        index(isPlace(place));
        int set = 0;
        for (int leaf : leavesOf(place)) {
            set += 1 << leaf;
        }
        return set;
    }

    int set(int version, int leaf, int account, int month, int amount) {
        index(isVersion(version) && isPlace(leaf) && isMonth(month) && account >= 0 && account <= 2);
        argument(amount >= 0 && amount <= (account == 2 ? 1000000 : 1000));
        state(isLeaf(leaf) && !closed.contains(version + " " + leaf));
        return put("" + version, leaf, account, month, amount);
    }

    boolean hold(int leaf, int month, boolean isHeld) {
        index(isPlace(leaf) && isMonth(month));
        state(isLeaf(leaf));
        return isHeld ? held.add(leaf + " " + month) : held.remove(leaf + " " + month);
    }

    int setSeason(int month, int weight) {
        index(isMonth(month));
        argument(weight >= 0 && weight <= 100);
        return seasons.set(month, weight);
    }

    int spread(int version, int place, int month, int sum, int way) {
        index(isVersion(version) && isPlace(place) && isMonth(month));
        argument(sum >= 0 && sum <= 1000000 && (way == 0 || way == 1));
        state(canSpread(version, place, month, sum));
        return doSpread(version, place, month, sum, way);
    }

    int spreadYear(int version, int place, int sum) {
        index(isVersion(version) && isPlace(place));
        argument(sum >= 0 && sum <= 1000000);
        boolean isAllZero = true;
        for (int weight : seasons) {
            isAllZero &= weight == 0;
        }
        state(!isAllZero);
        List<Integer> sums = share(sum, seasons);
        for (int month = 0; month < 12; month++) {
            state(canSpread(version, place, month, sums.get(month)));
        }
        int changed = 0;
        for (int month = 0; month < 12; month++) {
            changed += doSpread(version, place, month, sums.get(month), 0);
        }
        return changed;
    }

    int copy(int from, int to) {
        index(isVersion(from) && isVersion(to));
        argument(from != to);
        for (int leaf : leavesOf(0)) {
            state(!closed.contains(to + " " + leaf));
        }
        int changed = 0;
        for (int leaf : leavesOf(0)) {
            for (int account = 0; account < 3; account++) {
                for (int month = 0; month < 12; month++) {
                    int amount = get("" + from, leaf, account, month);
                    changed += put("" + to, leaf, account, month, amount) == amount ? 0 : 1;
                }
            }
        }
        return changed;
    }

    int handIn(int version, int place) {
        index(isVersion(version) && isPlace(place));
        int count = 0;
        for (int leaf : leavesOf(place)) {
            count += closed.add(version + " " + leaf) ? 1 : 0;
        }
        return count;
    }

    int takeBack(int version, int place) {
        index(isVersion(version) && isPlace(place));
        int count = 0;
        for (int leaf : leavesOf(place)) {
            count += closed.remove(version + " " + leaf) ? 1 : 0;
        }
        return count;
    }

    int see(int leaf, int account, int month, int amount) {
        index(isPlace(leaf) && isMonth(month) && account >= 0 && account <= 2);
        argument(amount >= 0 && amount <= (account == 2 ? 1000000 : 1000));
        state(isLeaf(leaf));
        return put("seen", leaf, account, month, amount);
    }

    int closeMonth() {
        state(seen < 12);
        return ++seen;
    }

    int amount(int version, int place, int account, int month) {
        index(isVersion(version) && isPlace(place) && isAccount(account) && isMonth(month));
        return sum("" + version, place, account, month);
    }

    int outlook(int version, int place, int account, int month) {
        index(isVersion(version) && isPlace(place) && isAccount(account) && isMonth(month));
        return sum(month < seen ? "seen" : "" + version, place, account, month);
    }

    int year(int version, int place, int account) {
        index(isVersion(version) && isPlace(place) && isAccount(account));
        int sum = 0;
        for (int month = 0; month < 12; month++) {
            sum += sum("" + version, place, account, month);
        }
        return sum;
    }

    int filled() {
        int count = 0;
        for (int amount : cells.values()) {
            count += amount == 0 ? 0 : 1;
        }
        return count;
    }

    int gap(int one, int other, int place, int part) {
        index(isVersion(one) && isVersion(other) && isPlace(place));
        argument(part >= 0 && part <= 3);
        int sum = 0;
        for (int leaf : leavesOf(place)) {
            for (int month = 0; month < 12; month++) {
                int h = get("" + one, leaf, 0, month);
                int p = get("" + one, leaf, 1, month);
                int otherH = get("" + other, leaf, 0, month);
                int otherP = get("" + other, leaf, 1, month);
                int[] parts = {otherH * otherP - h * p, (otherH - h) * p, h * (otherP - p), (otherH - h) * (otherP - p)};
                sum += parts[part];
            }
        }
        return sum;
    }

    private boolean isHeld(int version, int leaf, int month) {
        return held.contains(leaf + " " + month) || closed.contains(version + " " + leaf);
    }

    private List<Integer> free(int version, int place, int month) {
        List<Integer> free = new ArrayList<>();
        for (int leaf : leavesOf(place)) {
            if (!isHeld(version, leaf, month)) {
                free.add(leaf);
            }
        }
        return free;
    }

    private int rest(int version, int place, int month, int sum) {
        int rest = sum;
        for (int leaf : leavesOf(place)) {
            rest -= isHeld(version, leaf, month) ? get("" + version, leaf, 2, month) : 0;
        }
        return rest;
    }

    private boolean canSpread(int version, int place, int month, int sum) {
        return !free(version, place, month).isEmpty() && rest(version, place, month, sum) >= 0;
    }

    private int doSpread(int version, int place, int month, int sum, int way) {
        List<Integer> free = free(version, place, month);
        List<Integer> former = new ArrayList<>();
        List<Integer> even = new ArrayList<>();
        boolean isAllZero = true;
        for (int leaf : free) {
            former.add(get("" + version, leaf, 2, month));
            even.add(1);
            isAllZero &= get("" + version, leaf, 2, month) == 0;
        }
        List<Integer> shares = share(rest(version, place, month, sum), way == 1 || isAllZero ? even : former);
        int changed = 0;
        for (int i = 0; i < free.size(); i++) {
            changed += put("" + version, free.get(i), 2, month, shares.get(i)) == shares.get(i) ? 0 : 1;
        }
        return changed;
    }

    private static List<Integer> share(int amount, List<Integer> weights) {
        BigInteger total = BigInteger.ZERO;
        for (int weight : weights) {
            total = total.add(BigInteger.valueOf(weight));
        }
        List<Integer> shares = new ArrayList<>();
        int left = amount;
        for (int weight : weights) {
            int share = BigInteger.valueOf(amount).multiply(BigInteger.valueOf(weight)).divide(total).intValueExact();
            shares.add(share);
            left -= share;
        }
        for (int i = 0; i < weights.size() && left > 0; i++) {
            if (weights.get(i) != 0) {
                shares.set(i, shares.get(i) + 1);
                left--;
            }
        }
        if (left != 0) {
            throw new AssertionError("something is left: " + left);
        }
        return shares;
    }

    private List<Integer> leavesOf(int place) {
        List<Integer> leaves = new ArrayList<>();
        for (int leaf = 0; leaf < parents.size(); leaf++) {
            if (isLeaf(leaf) && isAtOrBelow(leaf, place)) {
                leaves.add(leaf);
            }
        }
        return leaves;
    }

    private boolean isAtOrBelow(int lower, int place) {
        return lower == place || parents.get(lower) != null && isAtOrBelow(parents.get(lower), place);
    }

    private boolean isLeaf(int place) {
        return !hasChildren(place);
    }

    private int sum(String layer, int place, int account, int month) {
        int sum = 0;
        for (int leaf : leavesOf(place)) {
            sum += account == 3
                    ? get(layer, leaf, 0, month) * get(layer, leaf, 1, month) : get(layer, leaf, account, month);
        }
        return sum;
    }

    private int get(String layer, int leaf, int account, int month) {
        return cells.getOrDefault(layer + " " + leaf + " " + account + " " + month, 0);
    }

    private int put(String layer, int leaf, int account, int month, int amount) {
        Integer before = cells.put(layer + " " + leaf + " " + account + " " + month, amount);
        return before == null ? 0 : before;
    }

    private boolean isPlace(int place) {
        return place >= 0 && place < parents.size();
    }

    private static boolean isVersion(int version) {
        return version >= 0 && version <= 2;
    }

    private static boolean isAccount(int account) {
        return account >= 0 && account <= 3;
    }

    private static boolean isMonth(int month) {
        return month >= 0 && month <= 11;
    }

    private static void index(boolean isThere) {
        if (!isThere) {
            throw new IndexOutOfBoundsException();
        }
    }

    private static void argument(boolean isInRange) {
        if (!isInRange) {
            throw new IllegalArgumentException();
        }
    }

    private static void state(boolean isRight) {
        if (!isRight) {
            throw new IllegalStateException();
        }
    }
}
