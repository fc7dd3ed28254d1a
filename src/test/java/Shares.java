/**
 * Pieces {x, y, x, y} and boxes {left, low, right, high}, by another way than the program's: the places
 * of a piece are shares of it from 0 to 1, and each condition leaves an interval of the shares.
 */
final class Shares {
    // The interval from lowUp / lowDown to highUp / highDown; what is below a fraction line is above 0.
    private long lowUp = 0;
    private long lowDown = 1;
    private long highUp = 1;
    private long highDown = 1;

    private Shares() {
    }

    /** Leaves the shares t with least <= start + t * step <= most. */
    private void keep(long start, long step, long least, long most) {
        if (step < 0) {
            keep(-start, -step, -most, -least);
        } else if (step == 0) {
            if (start < least || start > most) {
                empty();
            }
        } else {
            if ((least - start) * lowDown > lowUp * step) {
                lowUp = least - start;
                lowDown = step;
            }
            if ((most - start) * highDown < highUp * step) {
                highUp = most - start;
                highDown = step;
            }
        }
    }

    private void empty() {
        lowUp = 1;
        lowDown = 1;
        highUp = 0;
        highDown = 1;
    }

    private boolean isEmpty() {
        return lowUp * highDown > highUp * lowDown;
    }

    static boolean meets(int[] piece, int[] box) {
        Shares shares = new Shares();
        shares.keep(piece[0], piece[2] - piece[0], box[0], box[2]);
        shares.keep(piece[1], piece[3] - piece[1], box[1], box[3]);
        return !shares.isEmpty();
    }

    /** The places of the one are on the other, if they are on its line and within its length. */
    static boolean cross(int[] one, int[] other) {
        long w = one[2] - one[0];
        long h = one[3] - one[1];
        long v = other[2] - other[0];
        long i = other[3] - other[1];
        long dx = one[0] - other[0];
        long dy = one[1] - other[1];
        Shares shares = new Shares();
        shares.keep(v * dy - i * dx, v * h - i * w, 0, 0);
        shares.keep(v * dx + i * dy, v * w + i * h, 0, v * v + i * i);
        return !shares.isEmpty();
    }

    static boolean isSteep(int[] one, int[] other) {
        long w = one[2] - one[0];
        long h = one[3] - one[1];
        long v = other[2] - other[0];
        long i = other[3] - other[1];
        long along = w * v + h * i;
        long across = w * i - h * v;
        return along * along <= across * across;
    }
}
