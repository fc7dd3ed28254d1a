/** Offices that several tests begin with, and what one of them answers. */
final class Offices {
    private static final int MOST_GROUNDS = 5;
    private static final int MOST_POINTS = 8;
    private static final int MONTHS = 12;

    private Offices() {
    }

    /** Lays a cable by its points, x and y in turn. */
    static int cable(CableOffice office, int... places) {
        for (int k = 0; k + 1 < places.length; k += 2) {
            office.draft(places[k], places[k + 1]);
        }
        return office.lay();
    }

    /** An office with cables of the places that are told, each with x and y in turn. */
    static CableOffice of(int[]... cables) {
        CableOffice office = new CableOffice();
        for (int[] places : cables) {
            cable(office, places);
        }
        return office;
    }

    /** An office with cable 0 from (0, 4) to (9, 4), then as many upright ones at x 1, 2, .. as asked. */
    static CableOffice comb(int uprights) {
        CableOffice office = new CableOffice();
        cable(office, 0, 4, 9, 4);
        for (int k = 1; k <= uprights; k++) {
            cable(office, k, 0, k, 9);
        }
        return office;
    }

    static int everywhere(CableOffice office, int from, int to) {
        return office.ground(0, 0, 99, 99, from, to);
    }

    /** An office in which each kind of thing has happened: an agreement, a draft, a catch and a repair. */
    static CableOffice busy() {
        CableOffice office = comb(1);
        office.agree(0, 1);
        office.draft(20, 20);
        everywhere(office, 2, 3);
        office.tell(0, 7);
        office.repair(0, 0, 2);
        return office;
    }

    /**
     * All that the office answers about its first two cables and all its grounds, so that what a refused
     * call changed is seen; some 140 calls, as an object has 512.
     */
    static String allAnswers(CableOffice office) {
        StringBuilder all = new StringBuilder();
        int cables = Math.min(2, office.cables());
        all.append(office.cables()).append(' ').append(office.bare());
        for (int cable = 0; cable < cables; cable++) {
            appendCable(all, office, cable);
            for (int other = 0; other < cables; other++) {
                appendPair(all, office, cable, other);
            }
        }
        for (int k = 0; k < MOST_GROUNDS; k++) {
            appendGround(all, office, k, cables);
        }
        return all.toString();
    }

    private static void appendCable(StringBuilder all, CableOffice office, int cable) {
        for (int k = 0; k < MOST_POINTS; k++) {
            int point = k;
            all.append(' ').append(Check.answer(() -> office.point(cable, point)));
        }
        all.append(' ').append(office.lifted(cable, 0));
        for (int month = 0; month < MONTHS; month++) {
            all.append(' ').append(office.cost(cable, 0, month));
        }
    }

    private static void appendPair(StringBuilder all, CableOffice office, int one, int other) {
        all.append(' ').append(office.crossings(one, other)).append(' ').append(office.crossingsAnew(one, other));
        all.append(' ').append(office.isWell(one, other)).append(' ').append(office.isAgreed(one, other));
    }

    private static void appendGround(StringBuilder all, CableOffice office, int ground, int cables) {
        all.append(' ').append(Check.answer(() -> office.paid(ground)));
        for (int k = 0; k < MONTHS; k++) {
            int month = k;
            all.append(' ').append(Check.answer(() -> office.isClosed(ground, month)));
        }
        for (int k = 0; k < cables; k++) {
            int cable = k;
            all.append(' ').append(Check.answer(() -> office.touches(cable, 0, ground)));
        }
    }
}
