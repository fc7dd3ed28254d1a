import java.util.ArrayList;
import java.util.HashSet;
import java.util.List;
import java.util.Set;

/**
 * The document once more, in the plainest words: it keeps no counts, finds crossings by Shares, and
 * answers with a number, a Boolean or "throws." and a name.
 */
final class Model {
    private static final String NO_SUCH = "throws.IndexOutOfBoundsException";
    private static final String ARGUMENT = "throws.IllegalArgumentException";
    private static final String STATE = "throws.IllegalStateException";

    private List<int[]> draft = new ArrayList<>();
    private final List<List<int[]>> cables = new ArrayList<>();
    private final Set<Set<Integer>> agreements = new HashSet<>();
    private final List<int[]> grounds = new ArrayList<>();
    private final List<List<Integer>> catches = new ArrayList<>();
    private final List<Integer> paid = new ArrayList<>();
    private int repairs = 0;

    // ---- what there is

    private static boolean within(int least, int value, int most) {
        return least <= value && value <= most;
    }

    private static boolean isPlace(int x, int y) {
        return within(0, x, 99) && within(0, y, 99);
    }

    private boolean noCable(int cable) {
        return !within(0, cable, cables.size() - 1);
    }

    private boolean noPoint(int cable, int point) {
        return noCable(cable) || !within(0, point, cables.get(cable).size() - 1);
    }

    private boolean noPiece(int cable, int piece) {
        return noCable(cable) || !within(0, piece, cables.get(cable).size() - 2);
    }

    private boolean noGround(int ground) {
        return !within(0, ground, grounds.size() - 1);
    }

    private static boolean same(int[] place, int x, int y) {
        return place[0] == x && place[1] == y;
    }

    private List<int[]> pieces(int cable) {
        List<int[]> pieces = new ArrayList<>();
        List<int[]> points = cables.get(cable);
        for (int k = 0; k + 1 < points.size(); k++) {
            pieces.add(new int[] {points.get(k)[0], points.get(k)[1], points.get(k + 1)[0], points.get(k + 1)[1]});
        }
        return pieces;
    }

    private int count(int one, int other, boolean flatAlone) {
        int count = 0;
        for (int[] a : pieces(one)) {
            for (int[] b : pieces(other)) {
                if (one != other && Shares.cross(a, b) && !(flatAlone && Shares.isSteep(a, b))) {
                    count++;
                }
            }
        }
        return count;
    }

    private boolean well(int one, int other) {
        return count(one, other, false) > 0 && count(one, other, true) == 0;
    }

    private boolean isBare(int one, int other) {
        return count(one, other, false) > 0 && !agreements.contains(Set.of(one, other));
    }

    // ---- the calls

    Object draft(int x, int y) {
        if (!isPlace(x, y)) {
            return ARGUMENT;
        }
        if (draft.size() == 8 || !draft.isEmpty() && same(draft.get(draft.size() - 1), x, y)) {
            return STATE;
        }
        draft.add(new int[] {x, y});
        return draft.size();
    }

    Object lay() {
        if (draft.size() < 2 || cables.size() == 8) {
            return STATE;
        }
        cables.add(draft);
        draft = new ArrayList<>();
        return cables.size() - 1;
    }

    Object move(int cable, int point, int x, int y) {
        if (noPoint(cable, point)) {
            return NO_SUCH;
        }
        if (!isPlace(x, y)) {
            return ARGUMENT;
        }
        List<int[]> points = cables.get(cable);
        if (point > 0 && same(points.get(point - 1), x, y)
                || point < points.size() - 1 && same(points.get(point + 1), x, y)) {
            return STATE;
        }
        points.set(point, new int[] {x, y});
        int ahead = agreements.size();
        agreements.removeIf(pair -> {
            List<Integer> two = new ArrayList<>(pair);
            return !well(two.get(0), two.get(1));
        });
        return ahead - agreements.size();
    }

    Object cables() {
        return cables.size();
    }

    Object point(int cable, int point) {
        if (noPoint(cable, point)) {
            return NO_SUCH;
        }
        return cables.get(cable).get(point)[0] * 100 + cables.get(cable).get(point)[1];
    }

    Object crossings(int one, int other) {
        return noCable(one) || noCable(other) ? NO_SUCH : (Object) count(one, other, false);
    }

    Object isWell(int one, int other) {
        return noCable(one) || noCable(other) ? NO_SUCH : (Object) well(one, other);
    }

    Object agree(int one, int other) {
        if (noCable(one) || noCable(other)) {
            return NO_SUCH;
        }
        if (one == other || !well(one, other) || !agreements.add(Set.of(one, other))) {
            return STATE;
        }
        return bare();
    }

    Object isAgreed(int one, int other) {
        if (noCable(one) || noCable(other)) {
            return NO_SUCH;
        }
        return one != other && agreements.contains(Set.of(one, other));
    }

    Object bare() {
        int count = 0;
        for (int one = 0; one < cables.size(); one++) {
            for (int other = 0; other < one; other++) {
                count += isBare(one, other) ? 1 : 0;
            }
        }
        return count;
    }

    Object ground(int left, int low, int right, int high, int from, int to) {
        if (!isPlace(left, low) || !within(left, right, 99) || !within(low, high, 99)
                || !within(0, from, 11) || !within(0, to, 11)) {
            return ARGUMENT;
        }
        if (grounds.size() == 5) {
            return STATE;
        }
        grounds.add(new int[] {left, low, right, high, from, to});
        catches.add(new ArrayList<>());
        paid.add(0);
        return grounds.size() - 1;
    }

    private int price(int ground) {
        long sum = 0;
        for (int one : catches.get(ground)) {
            sum += one;
        }
        return (int) (sum / Math.max(1, catches.get(ground).size()));
    }

    Object tell(int ground, int amount) {
        if (noGround(ground)) {
            return NO_SUCH;
        }
        if (!within(0, amount, 1000000)) {
            return ARGUMENT;
        }
        if (catches.get(ground).size() == 100) {
            return STATE;
        }
        catches.get(ground).add(amount);
        return price(ground);
    }

    private boolean closed(int ground, int month) {
        int to = grounds.get(ground)[5];
        for (int m = grounds.get(ground)[4]; m != to; m = (m + 1) % 12) {
            if (m == month) {
                return true;
            }
        }
        return to == month;
    }

    Object isClosed(int ground, int month) {
        if (noGround(ground)) {
            return NO_SUCH;
        }
        return within(0, month, 11) ? (Object) closed(ground, month) : ARGUMENT;
    }

    Object touches(int cable, int piece, int ground) {
        if (noPiece(cable, piece) || noGround(ground)) {
            return NO_SUCH;
        }
        return Shares.meets(pieces(cable).get(piece), grounds.get(ground));
    }

    /** The lifted pieces, each as a list of its cable and its number. */
    private List<List<Integer>> lift(int cable, int piece) {
        List<List<Integer>> lifted = new ArrayList<>();
        lifted.add(List.of(cable, piece));
        for (int next = 0; next < lifted.size(); next++) {
            List<Integer> below = lifted.get(next);
            for (int above = below.get(0) + 1; above < cables.size(); above++) {
                for (int k = 0; k < pieces(above).size(); k++) {
                    List<Integer> one = List.of(above, k);
                    if (!lifted.contains(one) && piecesCross(below, one)) {
                        lifted.add(one);
                    }
                }
            }
        }
        return lifted;
    }

    private int[] placesOf(List<Integer> piece) {
        return pieces(piece.get(0)).get(piece.get(1));
    }

    private boolean piecesCross(List<Integer> one, List<Integer> other) {
        return !one.get(0).equals(other.get(0)) && Shares.cross(placesOf(one), placesOf(other));
    }

    private boolean isPossible(List<List<Integer>> lifted) {
        for (List<Integer> one : lifted) {
            for (List<Integer> other : lifted) {
                if (piecesCross(one, other) && isBare(one.get(0), other.get(0))) {
                    return false;
                }
            }
        }
        return true;
    }

    private List<Integer> owed(List<List<Integer>> lifted, int month) {
        List<Integer> owed = new ArrayList<>();
        for (int ground = 0; ground < grounds.size(); ground++) {
            boolean met = false;
            for (List<Integer> piece : lifted) {
                met |= Shares.meets(placesOf(piece), grounds.get(ground));
            }
            if (met && closed(ground, month)) {
                owed.add(ground);
            }
        }
        return owed;
    }

    Object lifted(int cable, int piece) {
        return noPiece(cable, piece) ? NO_SUCH : (Object) lift(cable, piece).size();
    }

    Object cost(int cable, int piece, int month) {
        if (noPiece(cable, piece)) {
            return NO_SUCH;
        }
        if (!within(0, month, 11)) {
            return ARGUMENT;
        }
        List<List<Integer>> lifted = lift(cable, piece);
        if (!isPossible(lifted)) {
            return -1;
        }
        int cost = 10 * lifted.size();
        for (int ground : owed(lifted, month)) {
            cost += price(ground);
        }
        return cost;
    }

    Object repair(int cable, int piece, int month) {
        Object cost = cost(cable, piece, month);
        if (cost instanceof String) {
            return cost;
        }
        if (cost.equals(-1) || repairs == 500) {
            return STATE;
        }
        repairs++;
        for (int ground : owed(lift(cable, piece), month)) {
            paid.set(ground, paid.get(ground) + price(ground));
        }
        return cost;
    }

    Object paid(int ground) {
        return noGround(ground) ? NO_SUCH : (Object) paid.get(ground);
    }
}
