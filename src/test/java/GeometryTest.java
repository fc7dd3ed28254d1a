import java.util.Arrays;

/** All pieces and grounds of a small field, against answers found by another way: by shares of the pieces. */
public final class GeometryTest {
    private static final int FIELD = 4;

    public static void main(String[] args) {
        int[][] pieces = pieces();
        for (int[] one : pieces) {
            for (int[] other : pieces) {
                compareCrossing(one, other);
            }
            compareGrounds(one);
        }
        Check.end("GeometryTest");
    }

    private static int[][] pieces() {
        int places = FIELD * FIELD;
        int[][] pieces = new int[places * (places - 1)][];
        int count = 0;
        for (int begin = 0; begin < places; begin++) {
            for (int end = 0; end < places; end++) {
                if (begin != end) {
                    pieces[count] = new int[] {begin / FIELD, begin % FIELD, end / FIELD, end % FIELD};
                    count++;
                }
            }
        }
        return pieces;
    }

    private static void lay(CableOffice office, int[] piece) {
        office.draft(piece[0], piece[1]);
        office.draft(piece[2], piece[3]);
        office.lay();
    }

    private static void compareCrossing(int[] one, int[] other) {
        CableOffice office = new CableOffice();
        lay(office, one);
        lay(office, other);
        boolean crosses = Shares.cross(one, other);
        String pair = Arrays.toString(one) + Arrays.toString(other);
        Check.same("crossings of " + pair, office.crossings(0, 1), crosses ? 1 : 0);
        Check.same("crossingsAnew of " + pair, office.crossingsAnew(1, 0), crosses ? 1 : 0);
        Check.same("isWell of " + pair, office.isWell(0, 1), crosses && Shares.isSteep(one, other));
        Check.same("lifted of " + pair, office.lifted(0, 0), crosses ? 2 : 1);
    }

    private static void compareGrounds(int[] piece) {
        for (int left = 0; left < FIELD; left++) {
            for (int low = 0; low < FIELD; low++) {
                for (int right = left; right < FIELD; right++) {
                    compareGroundsFrom(piece, left, low, right);
                }
            }
        }
    }

    private static void compareGroundsFrom(int[] piece, int left, int low, int right) {
        CableOffice office = new CableOffice();
        lay(office, piece);
        for (int high = low; high < FIELD; high++) {
            int ground = office.ground(left, low, right, high, 0, 0);
            int[] box = {left, low, right, high};
            Check.same("touches of " + Arrays.toString(piece) + Arrays.toString(box),
                    office.touches(0, 0, ground), Shares.meets(piece, box));
        }
    }
}
