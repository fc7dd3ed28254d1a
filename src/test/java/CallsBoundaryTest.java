/**
 * The boundary cases that the promises name, call by call: the ends of each range and what lies one beside
 * them, each line of each throws clause, which line decides, and that a call that throws changes nothing.
 */
public final class CallsBoundaryTest {
    private static final Class<IndexOutOfBoundsException> NO_SUCH = IndexOutOfBoundsException.class;
    private static final Class<IllegalArgumentException> ARGUMENT = IllegalArgumentException.class;
    private static final Class<IllegalStateException> STATE = IllegalStateException.class;
    private static final int LEAST = Integer.MIN_VALUE;
    private static final int MOST = Integer.MAX_VALUE;
    private static final int[] NO_PLACES = {-1, 100, LEAST, MOST};
    private static final int[] NO_MONTHS = {-1, 12, LEAST, MOST};
    private static final int[] NO_AMOUNTS = {-1, 1000001, LEAST, MOST};
    // The busy office has two cables of two points, and one ground; 7 and 8 are beside what an office can have.
    private static final int[] NO_CABLES = {-1, 2, 7, 8, LEAST, MOST};
    private static final int[] NO_POINTS = {-1, 2, 7, 8, LEAST, MOST};
    private static final int[] NO_PIECES = {-1, 1, 7, 8, LEAST, MOST};
    private static final int[] NO_GROUNDS = {-1, 1, 4, 5, LEAST, MOST};

    public static void main(String[] args) {
        noCablesAtFirst();
        noDraftAtFirst();
        noGroundsAtFirst();
        draftRange();
        draftOutOfRange();
        draftOfEightPoints();
        draftAtItsLastPlace();
        layOfTooFewPoints();
        layOfTheNinth();
        layEmptiesTheDraft();
        moveRange();
        moveOfNoSuchPoint();
        moveOutOfRange();
        moveToANeighbour();
        moveToItsOwnPlace();
        cablesOfNoneAndAll();
        pointOfNoSuch();
        pairsOfNoSuch();
        pairsOfOneAndTheSame();
        crossingsOfNoneAndAll();
        agreeWithoutCrossingWell();
        agreeTwice();
        bareOfNoneAndAll();
        groundRange();
        groundOutOfRange();
        groundRightOfLeft();
        groundTheSixth();
        tellRange();
        tellOfNoSuch();
        tellOutOfRange();
        tellTheHundredAndFirst();
        isClosedOfNoSuch();
        isClosedOutOfRange();
        touchesOfNoSuch();
        liftedOfNoSuch();
        costOfNoSuch();
        costOutOfRange();
        costNotPossible();
        repairOfNoSuch();
        repairOutOfRange();
        repairNotPossible();
        repairTheLastOfFiveHundred();
        repairsRefusedDoNotCount();
        paidOfNoSuch();
        paidAllTogether();
        Check.end("CallsBoundaryTest");
    }

    /** "A call that throws changes nothing": the call must throw, and the office answer all as ahead of it. */
    private static void refuses(String call, Class<? extends RuntimeException> due, CableOffice office,
            Check.Call run) {
        String ahead = Offices.allAnswers(office);
        Check.fails(call, due, run);
        Check.same(call + ": nothing is changed", Offices.allAnswers(office), ahead);
    }

    // ---- promise 1: no cables, an empty draft, no grounds

    private static void noCablesAtFirst() {
        CableOffice office = new CableOffice();
        Check.same("1: no cables", office.cables(), 0);
        Check.same("1: no bare pairs", office.bare(), 0);
        Check.fails("1: no point", NO_SUCH, () -> office.point(0, 0));
        Check.fails("1: no cable to move", NO_SUCH, () -> office.move(0, 0, 0, 0));
        Check.fails("1: no crossings", NO_SUCH, () -> office.crossings(0, 0));
        Check.fails("1: no crossings anew", NO_SUCH, () -> office.crossingsAnew(0, 0));
        Check.fails("1: no cables to cross well", NO_SUCH, () -> office.isWell(0, 0));
        Check.fails("1: no cables to agree", NO_SUCH, () -> office.agree(0, 0));
        Check.fails("1: no agreement", NO_SUCH, () -> office.isAgreed(0, 0));
        Check.fails("1: no piece to lift", NO_SUCH, () -> office.lifted(0, 0));
        Check.fails("1: no piece with a cost", NO_SUCH, () -> office.cost(0, 0, 0));
        Check.fails("1: no piece to repair", NO_SUCH, () -> office.repair(0, 0, 0));
    }

    private static void noDraftAtFirst() {
        CableOffice office = new CableOffice();
        Check.fails("1: an empty draft is not laid", STATE, () -> office.lay());
        Check.same("1: the first point may be at (0, 0)", office.draft(0, 0), 1);
    }

    private static void noGroundsAtFirst() {
        CableOffice office = Offices.comb(0);
        Check.fails("1: no ground to be closed", NO_SUCH, () -> office.isClosed(0, 0));
        Check.fails("1: no ground to tell for", NO_SUCH, () -> office.tell(0, 0));
        Check.fails("1: no ground to touch", NO_SUCH, () -> office.touches(0, 0, 0));
        Check.fails("1: no ground to pay", NO_SUCH, () -> office.paid(0));
        Check.same("1: no ground to cost", office.cost(0, 0, 0), 10);
        Check.same("1: the first ground", Offices.everywhere(office, 0, 0), 0);
    }

    // ---- promise 2: draft

    private static void draftRange() {
        CableOffice office = new CableOffice();
        int[] xs = {0, 0, 99, 99};
        int[] ys = {0, 99, 99, 0};
        for (int k = 0; k < 4; k++) {
            Check.same("2: a corner of the range", office.draft(xs[k], ys[k]), k + 1);
        }
        office.lay();
        for (int k = 0; k < 4; k++) {
            Check.same("2: kept", office.point(0, k), 100 * xs[k] + ys[k]);
        }
    }

    private static void draftOutOfRange() {
        for (int wrong : NO_PLACES) {
            CableOffice office = Offices.busy();
            refuses("2: x " + wrong, ARGUMENT, office, () -> office.draft(wrong, 0));
            Check.same("2: x " + wrong + " was not drafted", office.draft(1, 1), 2);
            CableOffice another = Offices.busy();
            refuses("2: y " + wrong, ARGUMENT, another, () -> another.draft(99, wrong));
            Check.same("2: y " + wrong + " was not drafted", another.draft(1, 1), 2);
        }
    }

    private static void draftOfEightPoints() {
        CableOffice office = new CableOffice();
        for (int k = 1; k <= 8; k++) {
            Check.same("2: how many points then", office.draft(k, k), k);
        }
        refuses("2: 8 points", STATE, office, () -> office.draft(9, 9));
        Check.fails("2: 8 points, and the last place", STATE, () -> office.draft(8, 8));
        Check.fails("2: 8 points, x ahead of that", ARGUMENT, () -> office.draft(100, 9));
        Check.fails("2: 8 points, y ahead of that", ARGUMENT, () -> office.draft(9, -1));
        Check.same("2: they are laid as they were", office.lay(), 0);
        Check.same("2: the eighth", office.point(0, 7), 808);
        Check.same("2: a new draft", office.draft(8, 8), 1);
    }

    private static void draftAtItsLastPlace() {
        CableOffice office = Offices.busy();
        refuses("2: its last point is at this place", STATE, office, () -> office.draft(20, 20));
        Check.same("2: not drafted twice", office.draft(20, 21), 2);
        Check.fails("2: the second place", STATE, () -> office.draft(20, 21));
        Check.same("2: the same y alone", office.draft(21, 21), 3);
        Check.same("2: the place ahead of the last", office.draft(20, 21), 4);
    }

    // ---- promise 3: lay

    private static void layOfTooFewPoints() {
        CableOffice office = Offices.busy();
        refuses("3: 1 point", STATE, office, () -> office.lay());
        Check.same("3: the draft stays", office.draft(30, 30), 2);
        Check.same("3: 2 points", office.lay(), 2);
        Check.same("3: the first of them", office.point(2, 0), 2020);
        CableOffice another = Offices.comb(1);
        refuses("3: no point", STATE, another, () -> another.lay());
    }

    private static void layOfTheNinth() {
        CableOffice office = Offices.comb(7);
        office.draft(50, 50);
        office.draft(60, 60);
        refuses("3: 8 cables", STATE, office, () -> office.lay());
        Check.same("3: the draft of the ninth stays", office.draft(70, 70), 3);
        Check.fails("3: no cable 8", NO_SUCH, () -> office.point(8, 0));
        Check.same("3: the eighth stays", office.point(7, 1), 709);
        CableOffice short8 = Offices.comb(7);
        Check.fails("3: 8 cables and no draft", STATE, () -> short8.lay());
    }

    private static void layEmptiesTheDraft() {
        CableOffice office = new CableOffice();
        Offices.cable(office, 0, 0, 1, 1, 2, 2, 3, 3, 4, 4, 5, 5, 6, 6, 7, 7);
        Check.same("3: the draft is empty then", office.draft(7, 7), 1);
        Check.same("3: a draft takes nothing of the last one", office.draft(8, 8), 2);
        Check.same("3: laid", office.lay(), 1);
        Check.fails("3: two points alone", NO_SUCH, () -> office.point(1, 2));
        Check.same("3: the first cable keeps its own", office.point(0, 0), 0);
        Check.same("3: the new one is reckoned at once", office.crossings(0, 1), 1);
    }

    // ---- promise 4: move

    private static void moveRange() {
        CableOffice office = Offices.comb(1);
        int[] xs = {0, 0, 99, 99};
        int[] ys = {0, 99, 99, 0};
        for (int point = 0; point < 2; point++) {
            for (int k = 0; k < 4; k++) {
                Check.same("4: a corner of the range", office.move(1, point, xs[k], ys[k]), 0);
                Check.same("4: moved there", office.point(1, point), 100 * xs[k] + ys[k]);
            }
            office.move(1, point, 50, 50 + point);
        }
    }

    private static void moveOfNoSuchPoint() {
        for (int wrong : NO_CABLES) {
            CableOffice office = Offices.busy();
            refuses("4: cable " + wrong, NO_SUCH, office, () -> office.move(wrong, 0, 1, 1));
            Check.fails("4: cable " + wrong + " ahead of x", NO_SUCH, () -> office.move(wrong, 0, 100, 1));
            Check.fails("4: cable " + wrong + " ahead of y", NO_SUCH, () -> office.move(wrong, 0, 1, -1));
        }
        for (int wrong : NO_POINTS) {
            CableOffice office = Offices.busy();
            refuses("4: point " + wrong, NO_SUCH, office, () -> office.move(0, wrong, 1, 1));
            Check.fails("4: point " + wrong + " ahead of x", NO_SUCH, () -> office.move(1, wrong, -1, 1));
            Check.fails("4: point " + wrong + " ahead of y", NO_SUCH, () -> office.move(1, wrong, 1, 100));
        }
    }

    private static void moveOutOfRange() {
        for (int wrong : NO_PLACES) {
            CableOffice office = Offices.busy();
            refuses("4: x " + wrong, ARGUMENT, office, () -> office.move(0, 0, wrong, 0));
            CableOffice another = Offices.busy();
            refuses("4: y " + wrong, ARGUMENT, another, () -> another.move(1, 1, 99, wrong));
        }
    }

    private static void moveToANeighbour() {
        CableOffice office = Offices.busy();
        refuses("4: the point behind it is at this place", STATE, office, () -> office.move(0, 0, 9, 4));
        CableOffice another = Offices.busy();
        refuses("4: the point ahead of it is at this place", STATE, another, () -> another.move(1, 1, 1, 0));
        Check.same("4: the agreement stands", another.isAgreed(0, 1), true);
        Check.same("4: another cable's point is at this place", another.move(1, 1, 9, 4), 1);
        Check.same("4: the same x as its neighbour", another.move(0, 0, 9, 5), 0);
        Check.same("4: the same y as its neighbour", another.move(0, 0, 8, 4), 0);
    }

    private static void moveToItsOwnPlace() {
        CableOffice office = Offices.busy();
        String ahead = Offices.allAnswers(office);
        Check.same("4: to its own place", office.move(0, 0, 0, 4), 0);
        Check.same("4: to its own place, the last", office.move(1, 1, 1, 9), 0);
        Check.same("4: nothing is changed by that", Offices.allAnswers(office), ahead);
    }

    // ---- promises 5 and 6: cables, point

    private static void cablesOfNoneAndAll() {
        CableOffice office = new CableOffice();
        Check.same("5: none", office.cables(), 0);
        for (int k = 1; k <= 8; k++) {
            Offices.cable(office, k, 0, k, 9);
            Check.same("5: " + k, office.cables(), k);
        }
        Check.fails("5: no ninth", STATE, () -> Offices.cable(office, 0, 0, 9, 9));
        Check.same("5: 8 stay", office.cables(), 8);
    }

    private static void pointOfNoSuch() {
        CableOffice office = Offices.busy();
        for (int wrong : NO_CABLES) {
            Check.fails("6: cable " + wrong, NO_SUCH, () -> office.point(wrong, 0));
        }
        for (int wrong : NO_POINTS) {
            Check.fails("6: point " + wrong, NO_SUCH, () -> office.point(1, wrong));
        }
        Check.same("6: the first", office.point(0, 0), 4);
        Check.same("6: the last", office.point(1, 1), 109);
        CableOffice corners = Offices.of(new int[] {0, 0, 99, 99});
        Check.same("6: the least", corners.point(0, 0), 0);
        Check.same("6: the greatest", corners.point(0, 1), 9999);
    }

    // ---- promises 7 to 12: pairs of cables

    private static void pairsOfNoSuch() {
        for (int wrong : NO_CABLES) {
            CableOffice office = Offices.busy();
            for (int right = 0; right < 2; right++) {
                int there = right;
                Check.fails("7: one " + wrong, NO_SUCH, () -> office.crossings(wrong, there));
                Check.fails("7: other " + wrong, NO_SUCH, () -> office.crossings(there, wrong));
                Check.fails("8: one " + wrong, NO_SUCH, () -> office.crossingsAnew(wrong, there));
                Check.fails("8: other " + wrong, NO_SUCH, () -> office.crossingsAnew(there, wrong));
                Check.fails("9: one " + wrong, NO_SUCH, () -> office.isWell(wrong, there));
                Check.fails("9: other " + wrong, NO_SUCH, () -> office.isWell(there, wrong));
                Check.fails("11: one " + wrong, NO_SUCH, () -> office.isAgreed(wrong, there));
                Check.fails("11: other " + wrong, NO_SUCH, () -> office.isAgreed(there, wrong));
                Check.fails("10: one " + wrong, NO_SUCH, () -> office.agree(wrong, there));
                Check.fails("10: other " + wrong, NO_SUCH, () -> office.agree(there, wrong));
            }
            Check.fails("7: both " + wrong, NO_SUCH, () -> office.crossings(wrong, wrong));
            Check.fails("8: both " + wrong, NO_SUCH, () -> office.crossingsAnew(wrong, wrong));
            Check.fails("9: both " + wrong, NO_SUCH, () -> office.isWell(wrong, wrong));
            Check.fails("11: both " + wrong, NO_SUCH, () -> office.isAgreed(wrong, wrong));
            refuses("10: both " + wrong, NO_SUCH, office, () -> office.agree(wrong, wrong));
        }
    }

    private static void pairsOfOneAndTheSame() {
        CableOffice office = Offices.comb(7);
        for (int k = 0; k < 8; k++) {
            int cable = k;
            Check.same("7: 0 for one and the same", office.crossings(k, k), 0);
            Check.same("8: 0 for one and the same", office.crossingsAnew(k, k), 0);
            Check.same("9: false for one and the same", office.isWell(k, k), false);
            Check.same("11: not agreed, one and the same", office.isAgreed(k, k), false);
            Check.fails("10: one and the same do not cross well", STATE, () -> office.agree(cable, cable));
        }
    }

    private static void crossingsOfNoneAndAll() {
        int[] level = {0, 5, 9, 5, 0, 5, 9, 5, 0, 5, 9, 5, 0, 5, 9, 5};
        int[] upright = {5, 0, 5, 9, 5, 0, 5, 9, 5, 0, 5, 9, 5, 0, 5, 9};
        CableOffice office = Offices.of(level, upright, new int[] {0, 9, 4, 9});
        Check.same("7: all 49 pairs", office.crossings(0, 1), 49);
        Check.same("8: all 49 pairs", office.crossingsAnew(1, 0), 49);
        Check.same("7: none", office.crossings(0, 2), 0);
        Check.same("8: none", office.crossingsAnew(2, 0), 0);
        for (int k = 7; k >= 1; k--) {
            office.move(0, k, 0, k % 2);
            int left = 7 * (k - k % 2);
            Check.same("7: kept, as a point moves away", office.crossings(0, 1), left);
            Check.same("8: anew, as a point moves away", office.crossingsAnew(0, 1), left);
        }
    }

    private static void agreeWithoutCrossingWell() {
        CableOffice apart = Offices.of(new int[] {0, 0, 9, 0}, new int[] {5, 1, 5, 9});
        refuses("10: they do not cross", STATE, apart, () -> apart.agree(0, 1));
        CableOffice flat = Offices.of(new int[] {0, 0, 9, 0}, new int[] {0, 0, 9, 8});
        refuses("10: they do not cross well", STATE, flat, () -> flat.agree(1, 0));
        CableOffice corner = Offices.of(new int[] {0, 0, 9, 0, 18, 5}, new int[] {9, 0, 14, 9});
        refuses("10: one of two pieces does so alone", STATE, corner, () -> corner.agree(0, 1));
        Check.same("10: both do", corner.move(1, 1, 9, 9), 0);
        Check.same("10: how many are bare then", corner.agree(0, 1), 0);
    }

    private static void agreeTwice() {
        CableOffice office = Offices.busy();
        refuses("10: they have an agreement", STATE, office, () -> office.agree(0, 1));
        Check.fails("10: they have an agreement, the other way round", STATE, () -> office.agree(1, 0));
        Check.same("10: none to fall twice", office.move(1, 1, 1, 3), 1);
        Check.fails("10: it fell, and they do not cross", STATE, () -> office.agree(0, 1));
        Check.same("10: they cross again", office.move(1, 1, 1, 4), 0);
        Check.same("10: again, when it fell", office.agree(1, 0), 0);
    }

    private static void bareOfNoneAndAll() {
        CableOffice office = new CableOffice();
        Check.same("12: no cable", office.bare(), 0);
        for (int k = 0; k < 8; k++) {
            Offices.cable(office, k, 0, 50, 50);
            Check.same("12: all pairs of " + (k + 1), office.bare(), k * (k + 1) / 2);
        }
        for (int k = 0; k < 7; k++) {
            office.move(k, 1, k, 1);
        }
        Check.same("12: none of 8", office.bare(), 0);
    }

    // ---- promise 13: ground

    private static void groundRange() {
        CableOffice office = new CableOffice();
        Check.same("13: the least of all", office.ground(0, 0, 0, 0, 0, 0), 0);
        Check.same("13: the greatest of all", office.ground(99, 99, 99, 99, 11, 11), 1);
        Check.same("13: the widest", office.ground(0, 0, 99, 99, 0, 11), 2);
        Check.same("13: right is left", office.ground(50, 0, 50, 99, 11, 0), 3);
        Check.same("13: high is low", office.ground(0, 50, 99, 50, 11, 0), 4);
    }

    private static void groundOutOfRange() {
        int[] right = {10, 10, 20, 20, 3, 4};
        for (int argument = 0; argument < 6; argument++) {
            for (int wrong : argument < 4 ? NO_PLACES : NO_MONTHS) {
                int[] given = right.clone();
                given[argument] = wrong;
                CableOffice office = Offices.busy();
                refuses("13: argument " + argument + " is " + wrong, ARGUMENT, office,
                        () -> office.ground(given[0], given[1], given[2], given[3], given[4], given[5]));
                Check.same("13: the next number", Offices.everywhere(office, 0, 0), 1);
            }
        }
    }

    private static void groundRightOfLeft() {
        CableOffice office = Offices.busy();
        refuses("13: right is left less 1", ARGUMENT, office, () -> office.ground(20, 0, 19, 99, 0, 0));
        CableOffice another = Offices.busy();
        refuses("13: high is low less 1", ARGUMENT, another, () -> another.ground(0, 20, 99, 19, 0, 0));
        Check.fails("13: right is 0, left 1", ARGUMENT, () -> another.ground(1, 0, 0, 0, 0, 0));
        Check.fails("13: high is 98, low 99", ARGUMENT, () -> another.ground(0, 99, 0, 98, 0, 0));
        Check.same("13: low may be greater than right", another.ground(0, 50, 9, 60, 0, 0), 1);
        Check.same("13: left may be greater than high", another.ground(50, 0, 60, 9, 0, 0), 2);
    }

    private static void groundTheSixth() {
        CableOffice office = Offices.busy();
        for (int k = 1; k < 5; k++) {
            Check.same("13: number", Offices.everywhere(office, k, k), k);
        }
        refuses("13: there are 5", STATE, office, () -> office.ground(0, 0, 0, 0, 0, 0));
        Check.fails("13: left ahead of that", ARGUMENT, () -> office.ground(-1, 0, 0, 0, 0, 0));
        Check.fails("13: low ahead of that", ARGUMENT, () -> office.ground(0, -1, 0, 0, 0, 0));
        Check.fails("13: right ahead of that", ARGUMENT, () -> office.ground(1, 0, 0, 0, 0, 0));
        Check.fails("13: high ahead of that", ARGUMENT, () -> office.ground(0, 1, 0, 0, 0, 0));
        Check.fails("13: from ahead of that", ARGUMENT, () -> office.ground(0, 0, 0, 0, 12, 0));
        Check.fails("13: to ahead of that", ARGUMENT, () -> office.ground(0, 0, 0, 0, 0, -1));
    }

    // ---- promise 14: tell

    private static void tellRange() {
        CableOffice office = new CableOffice();
        Offices.everywhere(office, 0, 0);
        Offices.everywhere(office, 0, 0);
        Check.same("14: the least amount", office.tell(0, 0), 0);
        Check.same("14: the greatest amount", office.tell(1, 1000000), 1000000);
    }

    private static void tellOfNoSuch() {
        for (int wrong : NO_GROUNDS) {
            CableOffice office = Offices.busy();
            refuses("14: ground " + wrong, NO_SUCH, office, () -> office.tell(wrong, 5));
            Check.fails("14: ground " + wrong + " ahead of the amount", NO_SUCH, () -> office.tell(wrong, -1));
        }
    }

    private static void tellOutOfRange() {
        for (int wrong : NO_AMOUNTS) {
            CableOffice office = Offices.busy();
            refuses("14: amount " + wrong, ARGUMENT, office, () -> office.tell(0, wrong));
            Check.same("14: the mean of 7 and 8, after amount " + wrong, office.tell(0, 8), 7);
            Check.same("14: the mean of 7, 8 and 9, after amount " + wrong, office.tell(0, 9), 8);
        }
    }

    private static void tellTheHundredAndFirst() {
        CableOffice office = Offices.busy();
        Offices.everywhere(office, 0, 0);
        for (int told = 2; told <= 100; told++) {
            Check.same("14: told " + told, office.tell(0, 7), 7);
        }
        refuses("14: 100 catches were told for it", STATE, office, () -> office.tell(0, 1000000));
        Check.fails("14: the amount too low ahead of that", ARGUMENT, () -> office.tell(0, -1));
        Check.fails("14: the amount too high ahead of that", ARGUMENT, () -> office.tell(0, 1000001));
        Check.same("14: of another ground it is the first", office.tell(1, 1000000), 1000000);
    }

    // ---- promises 15 and 16: isClosed, touches

    private static void isClosedOfNoSuch() {
        CableOffice office = Offices.busy();
        for (int wrong : NO_GROUNDS) {
            Check.fails("15: ground " + wrong, NO_SUCH, () -> office.isClosed(wrong, 2));
            Check.fails("15: ground " + wrong + " ahead of the month", NO_SUCH, () -> office.isClosed(wrong, 12));
        }
    }

    private static void isClosedOutOfRange() {
        CableOffice office = Offices.busy();
        Offices.everywhere(office, 0, 11);
        Offices.everywhere(office, 11, 0);
        for (int wrong : NO_MONTHS) {
            for (int ground = 0; ground < 3; ground++) {
                int asked = ground;
                Check.fails("15: month " + wrong, ARGUMENT, () -> office.isClosed(asked, wrong));
            }
        }
        Check.same("15: month 0", office.isClosed(1, 0), true);
        Check.same("15: month 11", office.isClosed(1, 11), true);
    }

    private static void touchesOfNoSuch() {
        CableOffice office = Offices.busy();
        for (int wrong : NO_CABLES) {
            Check.fails("16: cable " + wrong, NO_SUCH, () -> office.touches(wrong, 0, 0));
        }
        for (int wrong : NO_PIECES) {
            Check.fails("16: piece " + wrong, NO_SUCH, () -> office.touches(1, wrong, 0));
        }
        for (int wrong : NO_GROUNDS) {
            Check.fails("16: ground " + wrong, NO_SUCH, () -> office.touches(1, 0, wrong));
        }
        CableOffice eight = Offices.of(new int[] {0, 0, 1, 1, 2, 2, 3, 3, 4, 4, 5, 5, 6, 6, 7, 7});
        eight.ground(7, 7, 7, 7, 0, 0);
        Check.same("16: the last piece of eight points", eight.touches(0, 6, 0), true);
        Check.fails("16: one beyond it", NO_SUCH, () -> eight.touches(0, 7, 0));
    }

    // ---- promise 17: lifted

    private static void liftedOfNoSuch() {
        CableOffice office = Offices.busy();
        for (int wrong : NO_CABLES) {
            Check.fails("17: cable " + wrong, NO_SUCH, () -> office.lifted(wrong, 0));
        }
        for (int wrong : NO_PIECES) {
            Check.fails("17: piece " + wrong, NO_SUCH, () -> office.lifted(0, wrong));
        }
        Check.same("17: this one included", Offices.comb(0).lifted(0, 0), 1);
    }

    // ---- promise 18: cost

    private static void costOfNoSuch() {
        CableOffice office = Offices.busy();
        for (int wrong : NO_CABLES) {
            Check.fails("18: cable " + wrong, NO_SUCH, () -> office.cost(wrong, 0, 0));
            Check.fails("18: cable " + wrong + " ahead of the month", NO_SUCH, () -> office.cost(wrong, 0, 12));
        }
        for (int wrong : NO_PIECES) {
            Check.fails("18: piece " + wrong, NO_SUCH, () -> office.cost(0, wrong, 0));
            Check.fails("18: piece " + wrong + " ahead of the month", NO_SUCH, () -> office.cost(0, wrong, -1));
        }
    }

    private static void costOutOfRange() {
        CableOffice bare = Offices.comb(1);
        for (int wrong : NO_MONTHS) {
            Check.fails("18: month " + wrong, ARGUMENT, () -> Offices.busy().cost(0, 0, wrong));
            Check.fails("18: month " + wrong + " ahead of NONE", ARGUMENT, () -> bare.cost(0, 0, wrong));
        }
        CableOffice office = Offices.busy();
        Offices.everywhere(office, 11, 0);
        office.tell(1, 50);
        int[] due = {70, 20, 27, 27, 20, 20, 20, 20, 20, 20, 20, 70};
        for (int month = 0; month < 12; month++) {
            Check.same("18: month " + month, office.cost(0, 0, month), due[month]);
        }
    }

    private static void costNotPossible() {
        CableOffice office = Offices.comb(1);
        for (int month = 0; month < 12; month++) {
            Check.same("18: NONE if the repair is not possible", office.cost(0, 0, month), -1);
            Check.same("18: the upper one is possible", office.cost(1, 0, month), 10);
        }
    }

    // ---- promise 19: repair

    private static void repairOfNoSuch() {
        for (int wrong : NO_CABLES) {
            CableOffice office = Offices.busy();
            refuses("19: cable " + wrong, NO_SUCH, office, () -> office.repair(wrong, 0, 2));
            Check.fails("19: cable " + wrong + " ahead of the month", NO_SUCH, () -> office.repair(wrong, 0, 12));
        }
        for (int wrong : NO_PIECES) {
            CableOffice office = Offices.busy();
            refuses("19: piece " + wrong, NO_SUCH, office, () -> office.repair(0, wrong, 2));
            Check.fails("19: piece " + wrong + " ahead of the month", NO_SUCH, () -> office.repair(0, wrong, -1));
        }
    }

    private static void repairOutOfRange() {
        for (int wrong : NO_MONTHS) {
            CableOffice office = Offices.busy();
            refuses("19: month " + wrong, ARGUMENT, office, () -> office.repair(0, 0, wrong));
            CableOffice bare = Offices.comb(1);
            Check.fails("19: month " + wrong + " ahead of the bare pair", ARGUMENT, () -> bare.repair(0, 0, wrong));
        }
        CableOffice office = Offices.busy();
        Check.same("19: month 0", office.repair(0, 0, 0), 20);
        Check.same("19: month 11", office.repair(0, 0, 11), 20);
    }

    private static void repairNotPossible() {
        CableOffice office = Offices.comb(1);
        Offices.everywhere(office, 0, 11);
        office.tell(0, 30);
        refuses("19: the repair is not possible", STATE, office, () -> office.repair(0, 0, 0));
        Check.same("19: nothing is paid by that", office.paid(0), 0);
        Check.same("19: the upper one is possible", office.repair(1, 0, 0), 40);
    }

    private static void repairTheLastOfFiveHundred() {
        CableOffice office = Offices.of(new int[] {0, 0, 9, 9});
        Offices.everywhere(office, 0, 0);
        office.tell(0, 1000000);
        for (int made = 1; made <= 500; made++) {
            Check.same("19: repair " + made, office.repair(0, 0, 0), 1000010);
        }
        Check.fails("19: 500 were made", STATE, () -> office.repair(0, 0, 0));
        Check.fails("19: the piece ahead of that", NO_SUCH, () -> office.repair(0, 1, 0));
        Check.fails("19: the month ahead of that", ARGUMENT, () -> office.repair(0, 0, 12));
        Check.same("20: paid by 500 alone", office.paid(0), 500000000);
        Check.same("18: what is possible has a cost yet", office.cost(0, 0, 0), 1000010);
    }

    private static void repairsRefusedDoNotCount() {
        CableOffice office = Offices.of(new int[] {0, 0, 9, 0}, new int[] {0, 0, 9, 1});
        Check.fails("19: a bare pair does not count", STATE, () -> office.repair(0, 0, 0));
        Check.fails("19: no such month does not count", ARGUMENT, () -> office.repair(1, 0, 12));
        Check.fails("19: no such piece does not count", NO_SUCH, () -> office.repair(1, 1, 0));
        for (int made = 1; made <= 500; made++) {
            Check.same("19: repair " + made + " of those that were made", office.repair(1, 0, 0), 10);
        }
        Check.fails("19: one more", STATE, () -> office.repair(1, 0, 0));
    }

    // ---- promise 20: paid

    private static void paidOfNoSuch() {
        CableOffice office = Offices.busy();
        for (int wrong : NO_GROUNDS) {
            Check.fails("20: ground " + wrong, NO_SUCH, () -> office.paid(wrong));
        }
        Check.same("20: ground 0", office.paid(0), 7);
    }

    private static void paidAllTogether() {
        CableOffice office = Offices.comb(0);
        for (int k = 0; k < 5; k++) {
            Offices.everywhere(office, k, k);
            Check.same("20: none yet", office.paid(k), 0);
        }
        for (int k = 0; k < 5; k++) {
            office.tell(k, 10 + k);
            office.repair(0, 0, k);
            office.tell(k, 20 + k);
            Check.same("20: a catch told later pays nothing back", office.paid(k), 10 + k);
            office.repair(0, 0, k);
            Check.same("20: all prices together", office.paid(k), 25 + 2 * k);
            office.cost(0, 0, k);
            Check.same("20: a cost pays nothing", office.paid(k), 25 + 2 * k);
        }
    }
}
