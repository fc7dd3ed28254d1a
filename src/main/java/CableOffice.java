/**
 * A seabed office for cables: routes of straight pieces, crossings by order of laying and by angle,
 * agreements that fall when a route is moved, repairs that lift all that lies above, and grounds
 * that are closed to works in some months and paid by the catch of past years.
 */
public final class CableOffice {
    /** There is none. */
    public static final int NONE = -1;

    private static final int MOST_CABLES = 8;
    private static final int LEAST_POINTS = 2;
    private static final int MOST_POINTS = 8;
    private static final int LAST_PLACE = 99;
    private static final int MOST_GROUNDS = 5;
    private static final int LAST_MONTH = 11;
    private static final int MOST_CATCHES = 100;
    private static final int MOST_AMOUNT = 1000000;
    private static final int MOST_REPAIRS = 500;
    private static final int PIECE_COST = 10;

    private final Route draftRoute = new Route();
    // All rows are made here and used from the front, so that no place of them is ever null.
    private final Route[] routes = new Route[MOST_CABLES];
    private int cableCount = 0;

    // Of each pair of cables, by pairOf; the places of a cable with itself stay 0 and false.
    private final int[] crossed = new int[MOST_CABLES * MOST_CABLES];
    private final int[] crossedSteeply = new int[MOST_CABLES * MOST_CABLES];
    private final boolean[] agreed = new boolean[MOST_CABLES * MOST_CABLES];

    private final Ground[] grounds = new Ground[MOST_GROUNDS];
    private int groundCount = 0;
    private int repairCount = 0;

    public CableOffice() {
        for (int cable = 0; cable < MOST_CABLES; cable++) {
            routes[cable] = new Route();
        }
        for (int ground = 0; ground < MOST_GROUNDS; ground++) {
            grounds[ground] = new Ground();
        }
    }

    // ---- cables

    public int draft(int x, int y) throws IllegalArgumentException, IllegalStateException {
        demandPlace(x, y);
        if (draftRoute.points >= MOST_POINTS || draftRoute.isAt(draftRoute.points - 1, x, y)) {
            throw new IllegalStateException("the draft is full, or its last point is at this place");
        }
        draftRoute.add(x, y);
        return draftRoute.points;
    }

    public int lay() throws IllegalStateException {
        if (draftRoute.points < LEAST_POINTS || cableCount >= MOST_CABLES) {
            throw new IllegalStateException("the draft is too short, or there are 8 cables");
        }
        int cable = cableCount;
        routes[cable].takeAllOf(draftRoute);
        draftRoute.points = 0;
        cableCount++;
        for (int other = 0; other < cable; other++) {
            recount(cable, other);
        }
        return cable;
    }

    public int move(int cable, int point, int x, int y)
            throws IndexOutOfBoundsException, IllegalArgumentException, IllegalStateException {
        demandPoint(cable, point);
        demandPlace(x, y);
        Route route = routes[cable];
        if (route.isAt(point - 1, x, y) || route.isAt(point + 1, x, y)) {
            throw new IllegalStateException("a neighbour of the point is at this place");
        }
        route.x[point] = x;
        route.y[point] = y;
        int fallen = 0;
        for (int other = 0; other < cableCount; other++) {
            if (other != cable) {
                recount(cable, other);
                fallen += dropIfNotWell(cable, other);
            }
        }
        return fallen;
    }

    public int cables() {
        return cableCount;
    }

    public int point(int cable, int point) throws IndexOutOfBoundsException {
        demandPoint(cable, point);
        return 100 * routes[cable].x[point] + routes[cable].y[point];
    }

    public int crossings(int one, int other) throws IndexOutOfBoundsException {
        demandCables(one, other);
        return crossed[pairOf(one, other)];
    }

    public int crossingsAnew(int one, int other) throws IndexOutOfBoundsException {
        demandCables(one, other);
        return one == other ? 0 : countCrossings(routes[one], routes[other], false);
    }

    public boolean isWell(int one, int other) throws IndexOutOfBoundsException {
        demandCables(one, other);
        return crossWell(one, other);
    }

    // ---- agreements

    public int agree(int one, int other) throws IndexOutOfBoundsException, IllegalStateException {
        demandCables(one, other);
        int pair = pairOf(one, other);
        if (!crossWell(one, other) || agreed[pair]) {
            throw new IllegalStateException("the cables do not cross well, or have an agreement");
        }
        agreed[pair] = true;
        return countBarePairs();
    }

    public boolean isAgreed(int one, int other) throws IndexOutOfBoundsException {
        demandCables(one, other);
        return agreed[pairOf(one, other)];
    }

    public int bare() {
        return countBarePairs();
    }

    // ---- grounds

    public int ground(int left, int low, int right, int high, int from, int to)
            throws IllegalArgumentException, IllegalStateException {
        demandPlace(left, low);
        demandPlace(right, high);
        if (right < left || high < low) {
            throw new IllegalArgumentException("right is less than left, or high less than low");
        }
        demandMonth(from);
        demandMonth(to);
        if (groundCount >= MOST_GROUNDS) {
            throw new IllegalStateException("there are 5 grounds");
        }
        int number = groundCount;
        grounds[number].setBounds(left, low, right, high);
        grounds[number].setMonths(from, to);
        groundCount++;
        return number;
    }

    public int tell(int ground, int amount)
            throws IndexOutOfBoundsException, IllegalArgumentException, IllegalStateException {
        demandGround(ground);
        if (amount < 0 || amount > MOST_AMOUNT) {
            throw new IllegalArgumentException("the amount is out of range");
        }
        Ground told = grounds[ground];
        if (told.catches >= MOST_CATCHES) {
            throw new IllegalStateException("100 catches were told for the ground");
        }
        told.catches++;
        told.catchSum += amount;
        return told.price();
    }

    public boolean isClosed(int ground, int month)
            throws IndexOutOfBoundsException, IllegalArgumentException {
        demandGround(ground);
        demandMonth(month);
        return grounds[ground].isShutIn(month);
    }

    public boolean touches(int cable, int piece, int ground) throws IndexOutOfBoundsException {
        demandPiece(cable, piece);
        demandGround(ground);
        return routes[cable].pieceMeets(piece, grounds[ground]);
    }

    // ---- repairs

    public int lifted(int cable, int piece) throws IndexOutOfBoundsException {
        demandPiece(cable, piece);
        return Long.bitCount(liftedWith(cable, piece));
    }

    public int cost(int cable, int piece, int month)
            throws IndexOutOfBoundsException, IllegalArgumentException {
        demandPiece(cable, piece);
        demandMonth(month);
        long lifting = liftedWith(cable, piece);
        return isPossible(lifting) ? costOf(lifting, month) : NONE;
    }

    public int repair(int cable, int piece, int month)
            throws IndexOutOfBoundsException, IllegalArgumentException, IllegalStateException {
        demandPiece(cable, piece);
        demandMonth(month);
        long lifting = liftedWith(cable, piece);
        if (repairCount >= MOST_REPAIRS || !isPossible(lifting)) {
            throw new IllegalStateException("the repair is not possible, or 500 were made");
        }
        repairCount++;
        payGrounds(lifting, month);
        return costOf(lifting, month);
    }

    public int paid(int ground) throws IndexOutOfBoundsException {
        demandGround(ground);
        return grounds[ground].paidSum;
    }

    // ---- demands on arguments

    private static void demandPlace(int x, int y) {
        if (x < 0 || x > LAST_PLACE || y < 0 || y > LAST_PLACE) {
            throw new IllegalArgumentException("the place is out of range");
        }
    }

    private static void demandMonth(int month) {
        if (month < 0 || month > LAST_MONTH) {
            throw new IllegalArgumentException("the month is out of range");
        }
    }

    private void demandCable(int cable) {
        if (cable < 0 || cable >= cableCount) {
            throw new IndexOutOfBoundsException("there is no such cable");
        }
    }

    private void demandCables(int one, int other) {
        demandCable(one);
        demandCable(other);
    }

    private void demandPoint(int cable, int point) {
        demandCable(cable);
        if (point < 0 || point >= routes[cable].points) {
            throw new IndexOutOfBoundsException("there is no such point");
        }
    }

    private void demandPiece(int cable, int piece) {
        demandCable(cable);
        if (piece < 0 || piece >= routes[cable].pieces()) {
            throw new IndexOutOfBoundsException("there is no such piece");
        }
    }

    private void demandGround(int ground) {
        if (ground < 0 || ground >= groundCount) {
            throw new IndexOutOfBoundsException("there is no such ground");
        }
    }

    // ---- pairs of cables

    /** The place of a pair in the rows of pairs; the same for both orders. */
    private static int pairOf(int one, int other) {
        return MOST_CABLES * Math.min(one, other) + Math.max(one, other);
    }

    private void recount(int one, int other) {
        int pair = pairOf(one, other);
        crossed[pair] = countCrossings(routes[one], routes[other], false);
        crossedSteeply[pair] = countCrossings(routes[one], routes[other], true);
    }

    private static int countCrossings(Route one, Route other, boolean steepAlone) {
        int count = 0;
        for (int k = 0; k < one.pieces(); k++) {
            for (int m = 0; m < other.pieces(); m++) {
                if (one.pieceCrosses(k, other, m) && (!steepAlone || one.pieceIsSteepTo(k, other, m))) {
                    count++;
                }
            }
        }
        return count;
    }

    private boolean crossWell(int one, int other) {
        int pair = pairOf(one, other);
        return crossed[pair] > 0 && crossedSteeply[pair] == crossed[pair];
    }

    /** Returns how many agreements fall: 1 or 0. */
    private int dropIfNotWell(int one, int other) {
        int pair = pairOf(one, other);
        if (!agreed[pair] || crossWell(one, other)) {
            return 0;
        }
        agreed[pair] = false;
        return 1;
    }

    private int countBarePairs() {
        int count = 0;
        for (int below = 0; below < cableCount; below++) {
            for (int above = below + 1; above < cableCount; above++) {
                int pair = pairOf(below, above);
                if (crossed[pair] > 0 && !agreed[pair]) {
                    count++;
                }
            }
        }
        return count;
    }

    // ---- pieces that are lifted, as a set of bits

    private static long bitOf(int cable, int piece) {
        return 1L << (MOST_POINTS * cable + piece);
    }

    private static boolean isIn(long pieces, int cable, int piece) {
        return (pieces & bitOf(cable, piece)) != 0;
    }

    /** The pieces that are lifted with a piece, this one included. */
    private long liftedWith(int cable, int piece) {
        long lifting = bitOf(cable, piece);
        // Lifting goes upwards alone: all lifted pieces below are known when a cable's turn comes.
        for (int above = cable + 1; above < cableCount; above++) {
            for (int below = cable; below < above; below++) {
                lifting |= lyingOn(lifting, below, above);
            }
        }
        return lifting;
    }

    /** The pieces of the cable above that cross a lifted piece of the cable below. */
    private long lyingOn(long lifting, int below, int above) {
        long found = 0;
        for (int piece = 0; piece < routes[above].pieces(); piece++) {
            if (liesOnLifted(lifting, below, above, piece)) {
                found |= bitOf(above, piece);
            }
        }
        return found;
    }

    private boolean liesOnLifted(long lifting, int below, int above, int piece) {
        for (int k = 0; k < routes[below].pieces(); k++) {
            if (isIn(lifting, below, k) && routes[below].pieceCrosses(k, routes[above], piece)) {
                return true;
            }
        }
        return false;
    }

    private boolean isPossible(long lifting) {
        for (int above = 0; above < cableCount; above++) {
            for (int below = 0; below < above; below++) {
                // What lies on a lifted piece is lifted too, so that it need not be asked here.
                if (!agreed[pairOf(below, above)] && lyingOn(lifting, below, above) != 0) {
                    return false;
                }
            }
        }
        return true;
    }

    private int costOf(long lifting, int month) {
        int cost = PIECE_COST * Long.bitCount(lifting);
        for (int ground = 0; ground < groundCount; ground++) {
            if (isOwed(lifting, grounds[ground], month)) {
                cost += grounds[ground].price();
            }
        }
        return cost;
    }

    private void payGrounds(long lifting, int month) {
        for (int ground = 0; ground < groundCount; ground++) {
            if (isOwed(lifting, grounds[ground], month)) {
                grounds[ground].paidSum += grounds[ground].price();
            }
        }
    }

    private boolean isOwed(long lifting, Ground ground, int month) {
        return ground.isShutIn(month) && isMetByAny(lifting, ground);
    }

    private boolean isMetByAny(long lifting, Ground ground) {
        for (int cable = 0; cable < cableCount; cable++) {
            for (int piece = 0; piece < routes[cable].pieces(); piece++) {
                if (isIn(lifting, cable, piece) && routes[cable].pieceMeets(piece, ground)) {
                    return true;
                }
            }
        }
        return false;
    }

    /** The points of a cable, or of the draft of one. */
    private static final class Route {
        private final int[] x = new int[MOST_POINTS];
        private final int[] y = new int[MOST_POINTS];
        private int points = 0;

        private int pieces() {
            return points - 1;
        }

        /** Whether there is such a point, and it is at this place. */
        private boolean isAt(int point, int placeX, int placeY) {
            return point >= 0 && point < points && x[point] == placeX && y[point] == placeY;
        }

        private void add(int placeX, int placeY) {
            x[points] = placeX;
            y[points] = placeY;
            points++;
        }

        private void takeAllOf(Route other) {
            System.arraycopy(other.x, 0, x, 0, MOST_POINTS);
            System.arraycopy(other.y, 0, y, 0, MOST_POINTS);
            points = other.points;
        }

        private int width(int piece) {
            return x[piece + 1] - x[piece];
        }

        private int height(int piece) {
            return y[piece + 1] - y[piece];
        }

        /** Above 0 left of the line through a piece, 0 on it, below 0 right of it. */
        private int sideOf(int piece, int placeX, int placeY) {
            return width(piece) * (placeY - y[piece]) - height(piece) * (placeX - x[piece]);
        }

        private int leftOf(int piece) {
            return Math.min(x[piece], x[piece + 1]);
        }

        private int rightOf(int piece) {
            return Math.max(x[piece], x[piece + 1]);
        }

        private int lowOf(int piece) {
            return Math.min(y[piece], y[piece + 1]);
        }

        private int highOf(int piece) {
            return Math.max(y[piece], y[piece + 1]);
        }

        private boolean pieceCrosses(int piece, Route other, int k) {
            // The boxes decide between pieces on one line, where no side tells anything.
            return boxMeets(piece, other.leftOf(k), other.lowOf(k), other.rightOf(k), other.highOf(k))
                    && lineDivides(piece, other, k)
                    && other.lineDivides(k, this, piece);
        }

        /** Whether the smallest box round a piece has a place in common with another box. */
        private boolean boxMeets(int piece, int left, int low, int right, int high) {
            return leftOf(piece) <= right && rightOf(piece) >= left
                    && lowOf(piece) <= high && highOf(piece) >= low;
        }

        /** Whether the line through a piece has a place in common with a piece of another route. */
        private boolean lineDivides(int piece, Route other, int k) {
            int begin = sideOf(piece, other.x[k], other.y[k]);
            int end = sideOf(piece, other.x[k + 1], other.y[k + 1]);
            return Math.min(begin, end) <= 0 && Math.max(begin, end) >= 0;
        }

        private boolean pieceIsSteepTo(int piece, Route other, int k) {
            int w = width(piece);
            int h = height(piece);
            int v = other.width(k);
            int i = other.height(k);
            return Math.abs(w * v + h * i) <= Math.abs(w * i - h * v);
        }

        private boolean pieceMeets(int piece, Ground ground) {
            return boxMeets(piece, ground.left, ground.low, ground.right, ground.high)
                    && lineMeets(piece, ground);
        }

        /** Whether the corners of a ground do not all lie to one side of the line through a piece. */
        private boolean lineMeets(int piece, Ground ground) {
            int a = sideOf(piece, ground.left, ground.low);
            int b = sideOf(piece, ground.right, ground.low);
            int c = sideOf(piece, ground.left, ground.high);
            int d = sideOf(piece, ground.right, ground.high);
            return Math.min(Math.min(a, b), Math.min(c, d)) <= 0
                    && Math.max(Math.max(a, b), Math.max(c, d)) >= 0;
        }
    }

    private static final class Ground {
        private int left = 0;
        private int low = 0;
        private int right = 0;
        private int high = 0;
        private int from = 0;
        private int to = 0;
        private int catches = 0;
        private int catchSum = 0;
        private int paidSum = 0;

        private void setBounds(int newLeft, int newLow, int newRight, int newHigh) {
            left = newLeft;
            low = newLow;
            right = newRight;
            high = newHigh;
        }

        private void setMonths(int newFrom, int newTo) {
            from = newFrom;
            to = newTo;
        }

        private boolean isShutIn(int month) {
            if (from <= to) {
                return from <= month && month <= to;
            }
            return from <= month || month <= to;
        }

        private int price() {
            return catches > 0 ? catchSum / catches : 0;
        }
    }
}
