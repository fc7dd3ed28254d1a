/** The boundary cases that the document's "Terms" name: a test for each sentence, which it quotes. */
public final class TermsBoundaryTest {
    private static final Class<IndexOutOfBoundsException> NO_SUCH = IndexOutOfBoundsException.class;
    private static final Class<IllegalStateException> STATE = IllegalStateException.class;

    public static void main(String[] args) {
        numberedInOrderAtMostEight();
        aboveThoseWithLesserNumbers();
        twoToEightPoints();
        twoThatFollowAreNotAtOnePlace();
        piecesFromPointToPoint();
        piecesWithBothEnds();
        anyPlaceOfThePlane();
        piecesOnOneLine();
        piecesOfDifferentCables();
        steeplyIfAtMost();
        steeplyOfSlantedPieces();
        wellIfTheyCross();
        wellIfAllPiecesThatCrossDoSo();
        agreementOfThoseThatCrossWell();
        agreementFalls();
        agreementStands();
        agreementDoesNotComeBack();
        bareIfTheyCrossWithoutAgreement();
        groundsNumberedAtMostFive();
        groundSidesIncluded();
        groundCornersIncluded();
        groundOfOnePlace();
        monthsBothIncluded();
        monthsGoOnWithZero();
        priceWithNoCatchTold();
        priceRoundedDown();
        liftedAndSoOn();
        liftedEachOnce();
        liftedAtMost();
        notPossibleWithABarePair();
        possibleWithABarePairElsewhere();
        groundsPaidOnce();
        groundsOfLiftedPiecesAlone();
        groundsOffAllPieces();
        Check.end("TermsBoundaryTest");
    }

    // ---- cables

    private static void numberedInOrderAtMostEight() {
        String sentence = "numbered from 0 in the order in which they are laid, at most 8: ";
        CableOffice office = new CableOffice();
        Check.fails(sentence + "none yet", NO_SUCH, () -> office.point(0, 0));
        for (int k = 0; k < 8; k++) {
            int cable = k;
            Check.same(sentence + "number", Offices.cable(office, k, 1, k, 2), k);
            Check.same(sentence + "its place", office.point(k, 0), 100 * k + 1);
            Check.fails(sentence + "none beyond " + k, NO_SUCH, () -> office.point(cable + 1, 0));
        }
        Check.fails(sentence + "the ninth", STATE, () -> Offices.cable(office, 8, 1, 8, 2));
        Check.same(sentence + "eight stay", office.cables(), 8);
    }

    private static void aboveThoseWithLesserNumbers() {
        String sentence = "a cable lies above those with lesser numbers: ";
        CableOffice office = Offices.comb(1);
        Check.same(sentence + "0 lifts 1", office.lifted(0, 0), 2);
        Check.same(sentence + "1 does not lift 0", office.lifted(1, 0), 1);
        office.move(0, 0, 0, 5);
        office.move(1, 0, 1, 0);
        Check.same(sentence + "a move changes no order, below", office.lifted(0, 0), 2);
        Check.same(sentence + "a move changes no order, above", office.lifted(1, 0), 1);
    }

    private static void twoToEightPoints() {
        String sentence = "a cable has 2 to 8 points, numbered from 0: ";
        CableOffice office = new CableOffice();
        office.draft(0, 0);
        Check.fails(sentence + "1 is too few", STATE, () -> office.lay());
        for (int points = 2; points <= 8; points++) {
            for (int k = points == 2 ? 1 : 0; k < points; k++) {
                Check.same(sentence + "drafted", office.draft(points, k), k + 1);
            }
            int cable = office.lay();
            int last = points - 1;
            Check.same(sentence + "the last of " + points, office.point(cable, last), 100 * points + last);
            Check.fails(sentence + "beyond the last of " + points, NO_SUCH, () -> office.point(cable, last + 1));
        }
        for (int k = 0; k < 8; k++) {
            office.draft(50, k);
        }
        Check.fails(sentence + "9 are too many", STATE, () -> office.draft(50, 8));
    }

    private static void twoThatFollowAreNotAtOnePlace() {
        String sentence = "two that follow one another are not at one place: ";
        CableOffice office = new CableOffice();
        office.draft(5, 5);
        Check.fails(sentence + "in a draft", STATE, () -> office.draft(5, 5));
        office.draft(6, 5);
        Check.same(sentence + "one between them, in a draft", office.draft(5, 5), 3);
        office.lay();
        Check.fails(sentence + "the last of three moved", STATE, () -> office.move(0, 2, 6, 5));
        Check.fails(sentence + "the first of three moved", STATE, () -> office.move(0, 0, 6, 5));
        Check.fails(sentence + "the middle moved", STATE, () -> office.move(0, 1, 5, 5));
        Check.same(sentence + "the last moved away", office.move(0, 2, 7, 7), 0);
        Check.same(sentence + "one between them, by a move", office.move(0, 0, 7, 7), 0);
        Check.same(sentence + "the ends are at one place", office.point(0, 0), office.point(0, 2));
    }

    private static void piecesFromPointToPoint() {
        String sentence = "the piece k is the straight line from the point k to the point k + 1: ";
        CableOffice office = Offices.of(new int[] {0, 0, 10, 0, 20, 0, 30, 0, 40, 0, 50, 0, 60, 0, 70, 0});
        for (int k = 0; k < 7; k++) {
            office.move(0, k + 1, 10 * k + 10, 1);
            Check.same(sentence + "upright " + k, Offices.cable(office, 10 * k + 5, 0, 10 * k + 5, 9), k + 1);
        }
        for (int piece = 0; piece < 7; piece++) {
            Check.same(sentence + "each with its own upright", office.lifted(0, piece), 2);
            Check.same(sentence + "that one alone", office.crossings(0, piece + 1), 1);
        }
        Check.fails(sentence + "the point 7 begins none", NO_SUCH, () -> office.lifted(0, 7));
        Check.fails(sentence + "the point 1 of two begins none", NO_SUCH, () -> office.lifted(1, 1));
    }

    private static void piecesWithBothEnds() {
        String sentence = "with both ends: ";
        int[][] ends = {{5, 5, 9, 5}, {1, 5, 5, 5}};
        int[][] uprights = {{5, 5, 5, 9}, {5, 1, 5, 5}};
        for (int[] one : ends) {
            for (int[] other : uprights) {
                Check.same(sentence + "end on end", crossings(one, other), 1);
            }
        }
        int[] level = {3, 5, 7, 5};
        int[][] meeting = {{3, 1, 3, 9}, {7, 1, 7, 9}, {5, 5, 5, 9}, {5, 1, 5, 5}};
        int[][] beside = {{2, 1, 2, 9}, {8, 1, 8, 9}, {5, 6, 5, 9}, {5, 1, 5, 4}};
        for (int k = 0; k < 4; k++) {
            Check.same(sentence + "an end on a piece", crossings(level, meeting[k]), 1);
            Check.same(sentence + "one beside", crossings(level, beside[k]), 0);
            Check.same(sentence + "an end on a piece, below", crossings(meeting[k], level), 1);
            Check.same(sentence + "one beside, below", crossings(beside[k], level), 0);
        }
    }

    /** How many cross, kept and anew, in both orders and each piece turned round. */
    private static int crossings(int[] one, int[] other) {
        int count = Offices.of(one, other).crossings(0, 1);
        for (int[] below : new int[][] {one, turned(one)}) {
            for (int[] above : new int[][] {other, turned(other)}) {
                CableOffice office = Offices.of(below, above);
                Check.same("crossings, turned round", office.crossings(0, 1), count);
                Check.same("crossings, the other way round", office.crossings(1, 0), count);
                Check.same("crossings anew", office.crossingsAnew(0, 1), count);
                Check.same("crossings anew, the other way round", office.crossingsAnew(1, 0), count);
            }
        }
        return count;
    }

    private static int[] turned(int[] piece) {
        return new int[] {piece[2], piece[3], piece[0], piece[1]};
    }

    private static void anyPlaceOfThePlane() {
        String sentence = "any place of the plane, not one of whole numbers alone: ";
        int[] rising = {0, 0, 1, 1};
        int[] whole = {0, 0, 99, 99};
        Check.same(sentence + "at halves", crossings(rising, new int[] {0, 1, 1, 0}), 1);
        Check.same(sentence + "at thirds", crossings(rising, new int[] {0, 1, 2, 0}), 1);
        Check.same(sentence + "of the longest", crossings(whole, new int[] {0, 99, 99, 0}), 1);
        int[] nearly = {0, 0, 99, 98};
        Check.same(sentence + "hardly", crossings(nearly, new int[] {1, 1, 98, 97}), 1);
        Check.same(sentence + "hardly not", crossings(nearly, new int[] {1, 1, 98, 98}), 0);
        int[] low = {10, 15, 12, 16};
        Check.same(sentence + "an end hardly below", crossings(low, new int[] {11, 15, 12, 10}), 0);
        Check.same(sentence + "an end hardly above", crossings(low, new int[] {11, 16, 10, 20}), 0);
    }

    private static void piecesOnOneLine() {
        String sentence = "if they have a place in common, on one line: ";
        int[] slanted = {20, 10, 40, 20};
        int[][] sharing = {{20, 10, 40, 20}, {40, 20, 20, 10}, {22, 11, 38, 19}, {0, 0, 99, 0}, {30, 15, 50, 25},
            {40, 20, 42, 21}, {18, 9, 20, 10}};
        int[] due = {1, 1, 1, 0, 1, 1, 1};
        for (int k = 0; k < due.length; k++) {
            Check.same(sentence + k, crossings(slanted, sharing[k]), due[k]);
        }
        Check.same(sentence + "beyond", crossings(slanted, new int[] {42, 21, 44, 22}), 0);
        Check.same(sentence + "ahead", crossings(slanted, new int[] {16, 8, 18, 9}), 0);
        Check.same(sentence + "level, beyond", crossings(new int[] {1, 3, 4, 3}, new int[] {5, 3, 9, 3}), 0);
        Check.same(sentence + "upright, beyond", crossings(new int[] {3, 1, 3, 4}, new int[] {3, 5, 3, 9}), 0);
    }

    private static void piecesOfDifferentCables() {
        String sentence = "two pieces of different cables cross: ";
        CableOffice office = Offices.of(new int[] {0, 5, 9, 5, 5, 9, 5, 0});
        Check.same(sentence + "not of one, kept", office.crossings(0, 0), 0);
        Check.same(sentence + "not of one, anew", office.crossingsAnew(0, 0), 0);
        Check.same(sentence + "not of one, well", office.isWell(0, 0), false);
        Check.same(sentence + "not of one, bare", office.bare(), 0);
        Check.same(sentence + "not of one, agreed", office.isAgreed(0, 0), false);
        Check.fails(sentence + "not of one, agree", STATE, () -> office.agree(0, 0));
        for (int piece = 0; piece < 3; piece++) {
            Check.same(sentence + "not of one, lifted", office.lifted(0, piece), 1);
            Check.same(sentence + "not of one, cost", office.cost(0, piece, 0), 10);
        }
    }

    private static void steeplyIfAtMost() {
        String sentence = "is at most the amount: ";
        int[] level = {0, 50, 99, 50};
        int[] upright = {50, 0, 50, 99};
        for (int right = -1; right <= 1; right += 2) {
            for (int up = -1; up <= 1; up += 2) {
                int[] even = {50, 50, 50 + 49 * right, 50 + 49 * up};
                int[] flat = {50, 50, 50 + 49 * right, 50 + 48 * up};
                int[] steep = {50, 50, 50 + 48 * right, 50 + 49 * up};
                Check.same(sentence + "as much, to a level one", isWell(level, even), true);
                Check.same(sentence + "as much, to an upright one", isWell(upright, even), true);
                Check.same(sentence + "more, to a level one", isWell(level, flat), false);
                Check.same(sentence + "less, to a level one", isWell(level, steep), true);
                Check.same(sentence + "more, to an upright one", isWell(upright, steep), false);
                Check.same(sentence + "less, to an upright one", isWell(upright, flat), true);
            }
        }
        Check.same(sentence + "nothing, at a right angle", isWell(level, upright), true);
        Check.same(sentence + "more than nothing, on one line", isWell(level, new int[] {9, 50, 0, 50}), false);
        Check.same(sentence + "the longest, as much", isWell(new int[] {0, 0, 99, 0}, new int[] {0, 0, 99, 99}), true);
    }

    /** By the widths w = 2, v and the heights h = 1, i of the sentence in brackets. */
    private static void steeplyOfSlantedPieces() {
        String sentence = "steeply, if the amount of w * v + h * i is at most the amount of w * i - h * v: ";
        int[] slanted = {40, 40, 42, 41};
        int[][] others = {{1, 3}, {1, 2}, {0, 1}, {-1, 2}, {-3, 1}, {-4, 1}, {3, -1}, {4, -1}, {-1, -3}, {-1, -2}};
        boolean[] due = {true, false, true, true, true, false, true, false, true, false};
        for (int k = 0; k < due.length; k++) {
            int[] other = {40, 40, 40 + others[k][0], 40 + others[k][1]};
            Check.same(sentence + k, isWell(slanted, other), due[k]);
            Check.same(sentence + k + " turned round", isWell(slanted, turned(other)), due[k]);
            Check.same(sentence + k + " the other below", isWell(other, slanted), due[k]);
        }
    }

    private static boolean isWell(int[] one, int[] other) {
        CableOffice office = Offices.of(one, other);
        Check.same("a pair is well in both orders", office.isWell(1, 0), office.isWell(0, 1));
        return office.isWell(0, 1);
    }

    private static void wellIfTheyCross() {
        String sentence = "they cross well, if they cross: ";
        CableOffice office = Offices.comb(1);
        Check.same(sentence + "they do", office.isWell(0, 1), true);
        office.move(0, 0, 2, 4);
        Check.same(sentence + "steep, but apart", office.isWell(0, 1), false);
        office.move(0, 0, 1, 4);
        Check.same(sentence + "by one end", office.isWell(0, 1), true);
    }

    private static void wellIfAllPiecesThatCrossDoSo() {
        String sentence = "all their pieces that cross do so steeply: ";
        CableOffice office = Offices.of(new int[] {0, 5, 20, 5}, new int[] {1, 0, 1, 9, 9, 0, 9, 6, 18, 6});
        Check.same(sentence + "three do, the flat one is apart", office.isWell(0, 1), true);
        Check.same(sentence + "three do", office.crossings(0, 1), 3);
        office.move(1, 4, 18, 5);
        Check.same(sentence + "the flat one is there too", office.isWell(0, 1), false);
        Check.same(sentence + "four, three of them steep", office.crossings(0, 1), 4);
    }

    // ---- agreements

    private static void agreementOfThoseThatCrossWell() {
        String sentence = "two cables that cross well can have an agreement: ";
        CableOffice office = Offices.of(new int[] {0, 0, 10, 0}, new int[] {0, 0, 5, 5}, new int[] {0, 0, 6, 5},
                new int[] {0, 1, 9, 9});
        Check.same(sentence + "just well", office.agree(0, 1), 2);
        Check.fails(sentence + "just not well", STATE, () -> office.agree(0, 2));
        Check.fails(sentence + "apart", STATE, () -> office.agree(0, 3));
        Check.same(sentence + "no more than one", office.bare(), 2);
    }

    private static void agreementFalls() {
        String sentence = "it falls as soon as they do not cross well any more: ";
        int[] level = {0, 5, 20, 5};
        int[] legs = {5, 0, 5, 9, 15, 9, 20, 6};
        int[][] moves = {{0, 0, 6, 5}, {0, 1, 4, 5}, {1, 0, 5, 6}, {1, 0, 1, 5}, {1, 1, 12, 6}, {1, 3, 24, 5},
            {1, 2, 8, 5}};
        boolean[] due = {true, true, true, false, true, false, true};
        for (int k = 0; k < due.length; k++) {
            CableOffice office = Offices.of(level, legs);
            office.agree(1, 0);
            int fallen = office.move(moves[k][0], moves[k][1], moves[k][2], moves[k][3]);
            Check.same(sentence + "move " + k, fallen, due[k] ? 1 : 0);
            Check.same(sentence + "agreed after move " + k, office.isAgreed(0, 1), !due[k]);
        }
        CableOffice office = Offices.comb(7);
        for (int k = 1; k <= 7; k++) {
            office.agree(0, k);
        }
        Check.same(sentence + "seven by one move", office.move(0, 1, 0, 9), 7);
        Check.same(sentence + "none is left to fall", office.move(0, 1, 0, 8), 0);
    }

    private static void agreementStands() {
        String sentence = "it falls as soon as they do not cross well any more, not sooner: ";
        CableOffice office = Offices.of(new int[] {0, 5, 20, 5}, new int[] {5, 0, 5, 9, 15, 9});
        office.agree(0, 1);
        Check.same(sentence + "steep as much", office.move(1, 0, 1, 5), 0);
        Check.same(sentence + "another crossing", office.move(1, 2, 9, 5), 0);
        Check.same(sentence + "the first crossing is gone", office.move(1, 0, 5, 6), 0);
        Check.same(sentence + "it stands", office.isAgreed(0, 1), true);
        Offices.cable(office, 3, 5, 4, 5);
        Check.same(sentence + "a flat one is laid", office.isAgreed(0, 1), true);
        Check.same(sentence + "another cable moves", office.move(2, 0, 4, 4), 0);
        Check.fails(sentence + "a move is refused", STATE, () -> office.move(1, 0, 5, 9));
        Check.same(sentence + "it stands yet", office.isAgreed(1, 0), true);
    }

    private static void agreementDoesNotComeBack() {
        String sentence = "it does not come back by itself: ";
        CableOffice office = Offices.comb(1);
        office.agree(0, 1);
        office.move(1, 1, 1, 3);
        Check.same(sentence + "moved back", office.move(1, 1, 1, 9), 0);
        Check.same(sentence + "they cross well", office.isWell(0, 1), true);
        Check.same(sentence + "not agreed", office.isAgreed(0, 1), false);
        Check.same(sentence + "bare", office.bare(), 1);
        Check.same(sentence + "by a call it does", office.agree(0, 1), 0);
        Check.same(sentence + "agreed anew", office.isAgreed(0, 1), true);
    }

    private static void bareIfTheyCrossWithoutAgreement() {
        String sentence = "bare, if they cross without an agreement: ";
        CableOffice office = Offices.of(new int[] {0, 0, 10, 0}, new int[] {10, 0, 20, 0}, new int[] {30, 0, 40, 0});
        Check.same(sentence + "flatly, by one place", office.bare(), 1);
        office.move(1, 0, 10, 5);
        Check.same(sentence + "they do not cross", office.bare(), 0);
        office.move(1, 1, 10, 0);
        Check.same(sentence + "well", office.bare(), 1);
        Check.same(sentence + "with an agreement", office.agree(0, 1), 0);
        office.move(1, 1, 10, 1);
        Check.same(sentence + "it fell, but they do not cross", office.bare(), 0);
    }

    // ---- grounds

    private static void groundsNumberedAtMostFive() {
        String sentence = "grounds are numbered from 0, at most 5: ";
        CableOffice office = new CableOffice();
        for (int k = 0; k < 5; k++) {
            int ground = k;
            Check.fails(sentence + "not yet " + k, NO_SUCH, () -> office.paid(ground));
            Check.same(sentence + "number", office.ground(k, k, k, k, k, k), k);
            Check.same(sentence + "its own month", office.isClosed(k, k), true);
        }
        Check.fails(sentence + "the sixth", STATE, () -> office.ground(5, 5, 5, 5, 5, 5));
        Check.fails(sentence + "number 5", NO_SUCH, () -> office.paid(5));
        Check.same(sentence + "the fifth stays", office.isClosed(4, 5), false);
    }

    /** A level piece and an upright one come to each side of a ground, and end one ahead of it. */
    private static void groundSidesIncluded() {
        String sentence = "all of these included: ";
        int[][] meeting = {{0, 15, 10, 15}, {30, 15, 20, 15}, {15, 0, 15, 10}, {15, 30, 15, 20},
            {10, 0, 10, 99}, {20, 0, 20, 99}, {0, 10, 99, 10}, {0, 20, 99, 20}};
        int[][] beside = {{0, 15, 9, 15}, {30, 15, 21, 15}, {15, 0, 15, 9}, {15, 30, 15, 21},
            {9, 0, 9, 99}, {21, 0, 21, 99}, {0, 9, 99, 9}, {0, 21, 99, 21}};
        for (int k = 0; k < meeting.length; k++) {
            Check.same(sentence + "side " + k, touches(meeting[k], 10, 10, 20, 20), true);
            Check.same(sentence + "beside " + k, touches(beside[k], 10, 10, 20, 20), false);
        }
        Check.same(sentence + "wholly within", touches(new int[] {14, 14, 16, 15}, 10, 10, 20, 20), true);
        Check.same(sentence + "all the sea", touches(new int[] {0, 0, 99, 99}, 0, 0, 99, 99), true);
        Check.same(sentence + "the last column", touches(new int[] {99, 5, 99, 6}, 99, 0, 99, 99), true);
        Check.same(sentence + "the one ahead of it", touches(new int[] {98, 5, 97, 6}, 99, 0, 99, 99), false);
    }

    private static void groundCornersIncluded() {
        String sentence = "all of these included, at a corner: ";
        int[][] meeting = {{8, 12, 12, 8}, {18, 8, 22, 12}, {8, 18, 12, 22}, {18, 22, 22, 18}};
        int[][] beside = {{8, 11, 11, 8}, {19, 8, 22, 11}, {8, 19, 11, 22}, {19, 22, 22, 19}};
        for (int k = 0; k < 4; k++) {
            Check.same(sentence + k, touches(meeting[k], 10, 10, 20, 20), true);
            Check.same(sentence + "beside " + k, touches(beside[k], 10, 10, 20, 20), false);
        }
        Check.same(sentence + "at no whole place", touches(new int[] {8, 11, 12, 8}, 10, 10, 20, 20), false);
        Check.same(sentence + "within at no whole place", touches(new int[] {9, 13, 12, 7}, 10, 10, 20, 20), true);
        Check.same(sentence + "an end at it", touches(new int[] {20, 20, 21, 22}, 10, 10, 20, 20), true);
    }

    private static void groundOfOnePlace() {
        String sentence = "right from left, high from low: ";
        Check.same(sentence + "on the piece", touches(new int[] {0, 0, 4, 2}, 2, 1, 2, 1), true);
        Check.same(sentence + "above the piece", touches(new int[] {0, 0, 4, 2}, 2, 2, 2, 2), false);
        Check.same(sentence + "hardly above a piece", touches(new int[] {0, 0, 2, 1}, 1, 1, 1, 1), false);
        Check.same(sentence + "hardly below a piece", touches(new int[] {0, 0, 2, 1}, 1, 0, 1, 0), false);
        Check.same(sentence + "on its line, beyond it", touches(new int[] {0, 0, 4, 2}, 6, 3, 6, 3), false);
        Check.same(sentence + "at its end", touches(new int[] {0, 0, 4, 2}, 4, 2, 4, 2), true);
        Check.same(sentence + "an upright ground", touches(new int[] {0, 0, 4, 2}, 3, 0, 3, 9), true);
        Check.same(sentence + "a level ground", touches(new int[] {0, 0, 4, 2}, 0, 2, 3, 2), false);
    }

    private static boolean touches(int[] piece, int left, int low, int right, int high) {
        CableOffice office = Offices.of(piece, turned(piece));
        office.ground(left, low, right, high, 0, 0);
        Check.same("a piece that is turned round touches too", office.touches(1, 0, 0), office.touches(0, 0, 0));
        return office.touches(0, 0, 0);
    }

    private static void monthsBothIncluded() {
        closedIn("from a month to another one, both included: ", 3, 6, "...####.....");
        closedIn("from a month to another one, both included, the same one: ", 6, 6, "......#.....");
        closedIn("from a month to another one, both included, all: ", 0, 11, "############");
        closedIn("from a month to another one, both included, the last alone: ", 11, 11, "...........#");
        closedIn("from a month to another one, both included, the first alone: ", 0, 0, "#...........");
    }

    private static void monthsGoOnWithZero() {
        closedIn("beyond the month 11 going on with 0, if the first one is the greater one: ", 9, 2, "###......###");
        closedIn("going on with 0, the least: ", 11, 0, "#..........#");
        closedIn("going on with 0, by one greater: ", 6, 5, "############");
        closedIn("going on with 0, from the last on: ", 11, 10, "############");
        closedIn("going on with 0, to the first: ", 1, 0, "############");
        closedIn("going on with 0, one left out: ", 7, 5, "######.#####");
    }

    /** Asks each month, and pays in it by a repair. */
    private static void closedIn(String sentence, int from, int to, String months) {
        CableOffice office = Offices.of(new int[] {0, 0, 9, 9});
        Offices.everywhere(office, from, to);
        office.tell(0, 5);
        for (int month = 0; month < 12; month++) {
            boolean closed = months.charAt(month) == '#';
            Check.same(sentence + "month " + month, office.isClosed(0, month), closed);
            Check.same(sentence + "the cost in " + month, office.cost(0, 0, month), closed ? 15 : 10);
        }
    }

    private static void priceWithNoCatchTold() {
        String sentence = "its price is .. 0 if none was: ";
        CableOffice office = Offices.of(new int[] {0, 0, 9, 9});
        Offices.everywhere(office, 0, 11);
        Offices.everywhere(office, 0, 11);
        office.tell(1, 40);
        Check.same(sentence + "cost", office.cost(0, 0, 0), 50);
        Check.same(sentence + "repair", office.repair(0, 0, 0), 50);
        Check.same(sentence + "paid", office.paid(0), 0);
        Check.same(sentence + "a catch of 0 is one", office.tell(0, 0), 0);
        Check.same(sentence + "the mean with it", office.tell(0, 9), 4);
    }

    private static void priceRoundedDown() {
        String sentence = "the mean of all of them that were told, rounded down: ";
        CableOffice office = new CableOffice();
        Offices.everywhere(office, 0, 0);
        int[] catches = {2, 3, 3, 3, 1000000, 0, 0};
        int[] due = {2, 2, 2, 2, 200002, 166668, 142858};
        for (int k = 0; k < due.length; k++) {
            Check.same(sentence + "catch " + k, office.tell(0, catches[k]), due[k]);
        }
        CableOffice hundred = new CableOffice();
        Offices.everywhere(hundred, 0, 0);
        for (int k = 1; k < 100; k++) {
            Check.same(sentence + "catch " + k + " of a million", hundred.tell(0, 1000000), 1000000);
        }
        Check.same(sentence + "the hundredth counts", hundred.tell(0, 99), 990000);
    }

    // ---- repairs

    private static void liftedAndSoOn() {
        String sentence = "all pieces of cables above its own that cross it are lifted, and so on: ";
        CableOffice office = new CableOffice();
        for (int k = 0; k < 8; k++) {
            Offices.cable(office, 10 * k, 10 * k, 10 * k + 10, 10 * k + 10);
        }
        Check.same(sentence + "up to the topmost", office.lifted(0, 0), 8);
        Check.same(sentence + "the topmost", office.lifted(7, 0), 1);
        office.move(4, 0, 41, 40);
        Check.same(sentence + "up to the gap", office.lifted(0, 0), 4);
        Check.same(sentence + "beyond the gap", office.lifted(4, 0), 4);
        CableOffice down = Offices.of(new int[] {0, 0, 9, 0}, new int[] {5, 5, 5, 9}, new int[] {5, 0, 5, 6});
        Check.same(sentence + "not what lies below a lifted one", down.lifted(0, 0), 2);
    }

    private static void liftedEachOnce() {
        String sentence = "each once: ";
        CableOffice office = Offices.of(new int[] {0, 0, 9, 0}, new int[] {1, 0, 1, 9}, new int[] {8, 0, 8, 9},
                new int[] {0, 5, 9, 5});
        Check.same(sentence + "by way of two", office.lifted(0, 0), 4);
        office.move(3, 1, 4, 0);
        office.move(3, 0, 0, 2);
        Check.same(sentence + "by itself and by way of one", office.lifted(0, 0), 4);
    }

    private static void liftedAtMost() {
        String sentence = "10 for each lifted piece, and for each ground .. its price: ";
        CableOffice office = fullOffice();
        Check.same(sentence + "the most pieces", office.lifted(0, 0), 50);
        Check.same(sentence + "of the topmost", office.lifted(7, 6), 1);
        Check.same(sentence + "all crossings", office.crossings(0, 7), 49);
        for (int k = 0; k < 5; k++) {
            Offices.everywhere(office, 0, 0);
            office.tell(k, 1000000);
        }
        Check.same(sentence + "a bare pair of sixteen", office.bare(), 16);
        Check.same(sentence + "not possible", office.cost(0, 0, 0), CableOffice.NONE);
        for (int pair = 0; pair < 16; pair++) {
            Check.same(sentence + "agreed", office.agree(pair / 4 * 2, pair % 4 * 2 + 1), 15 - pair);
        }
        Check.same(sentence + "the dearest", office.cost(0, 0, 0), 5000500);
        Check.same(sentence + "in an open month", office.cost(0, 0, 1), 500);
        Check.same(sentence + "the cheapest", office.cost(7, 0, 1), 10);
    }

    /** Eight cables of eight points, to and fro at one line each; the even ones level, the odd ones upright. */
    private static CableOffice fullOffice() {
        CableOffice office = new CableOffice();
        for (int cable = 0; cable < 8; cable++) {
            for (int k = 0; k < 8; k++) {
                int along = k % 2 * 99;
                office.draft(cable % 2 == 0 ? along : cable, cable % 2 == 0 ? cable : along);
            }
            office.lay();
        }
        return office;
    }

    private static void notPossibleWithABarePair() {
        String sentence = "possible only if no two lifted pieces that cross are of cables that are a bare pair: ";
        CableOffice office = Offices.of(new int[] {0, 0, 9, 0}, new int[] {1, 0, 1, 9}, new int[] {0, 8, 9, 8},
                new int[] {8, 9, 8, 0});
        Check.same(sentence + "four bare", office.bare(), 4);
        office.agree(0, 1);
        office.agree(1, 2);
        office.agree(2, 3);
        Check.same(sentence + "one bare, the lowest with the topmost", office.cost(0, 0, 0), CableOffice.NONE);
        Check.fails(sentence + "no repair", STATE, () -> office.repair(0, 0, 0));
        office.agree(3, 0);
        Check.same(sentence + "none bare", office.repair(0, 0, 0), 40);
        office.move(2, 0, 0, 0);
        Check.same(sentence + "one fell, of two in the middle", office.cost(0, 0, 0), CableOffice.NONE);
        Check.fails(sentence + "no repair any more", STATE, () -> office.repair(0, 0, 0));
        Check.same(sentence + "the topmost alone", office.repair(3, 0, 0), 10);
    }

    private static void possibleWithABarePairElsewhere() {
        String sentence = "no two lifted pieces that cross, but others of a bare pair: ";
        CableOffice office = Offices.of(new int[] {0, 0, 9, 0, 9, 9}, new int[] {1, 0, 1, 5},
                new int[] {0, 4, 5, 4, 5, 6, 9, 6});
        office.agree(0, 1);
        office.agree(1, 2);
        Check.same(sentence + "0 and 2 are bare", office.bare(), 1);
        Check.same(sentence + "pieces of both are lifted", office.lifted(0, 0), 3);
        Check.same(sentence + "possible", office.cost(0, 0, 0), 30);
        Check.same(sentence + "repaired", office.repair(0, 0, 0), 30);
        Check.same(sentence + "the pieces that cross", office.cost(0, 1, 0), CableOffice.NONE);
        Check.same(sentence + "the upper one of these", office.cost(2, 2, 0), 10);
        office.move(2, 0, 0, 0);
        Check.same(sentence + "by a lifted piece too", office.cost(0, 0, 0), CableOffice.NONE);
    }

    private static void groundsPaidOnce() {
        String sentence = "its price, once: ";
        CableOffice office = Offices.comb(3);
        for (int k = 1; k <= 3; k++) {
            office.agree(0, k);
        }
        Offices.everywhere(office, 0, 0);
        Offices.everywhere(office, 0, 0);
        office.tell(0, 300);
        office.tell(1, 7);
        Check.same(sentence + "four pieces touch both", office.cost(0, 0, 0), 347);
        Check.same(sentence + "the repair", office.repair(0, 0, 0), 347);
        Check.same(sentence + "paid to the first", office.paid(0), 300);
        Check.same(sentence + "paid to the second", office.paid(1), 7);
    }

    private static void groundsOfLiftedPiecesAlone() {
        String sentence = "closed in the month of the repair, and .. a place in common with a lifted piece: ";
        CableOffice office = Offices.comb(1);
        Offices.cable(office, 50, 0, 50, 9, 60, 9);
        office.agree(0, 1);
        int[] lefts = {9, 1, 50, 10, 0};
        int[] lows = {4, 9, 0, 4, 0};
        for (int k = 0; k < 5; k++) {
            office.ground(lefts[k], lows[k], lefts[k], lows[k], k == 4 ? 1 : 0, k == 4 ? 1 : 0);
            office.tell(k, k == 0 ? 1 : 100 * k);
        }
        Check.same(sentence + "the end of the piece, and one of the lifted", office.repair(0, 0, 0), 121);
        Check.same(sentence + "the lifted one alone", office.repair(1, 0, 0), 110);
        Check.same(sentence + "the other piece of a cable", office.repair(2, 1, 0), 10);
        Check.same(sentence + "the piece at the third", office.repair(2, 0, 0), 210);
        Check.same(sentence + "none in another month", office.repair(0, 0, 1), 20);
        Check.same(sentence + "paid to the first", office.paid(0), 1);
        Check.same(sentence + "paid to the second", office.paid(1), 200);
        Check.same(sentence + "paid to the third", office.paid(2), 200);
        Check.same(sentence + "one beside the piece", office.paid(3), 0);
        Check.same(sentence + "off all pieces", office.paid(4), 0);
    }

    private static void groundsOffAllPieces() {
        String sentence = "a place in common with a lifted piece, with no cable and no point to spare: ";
        CableOffice office = fullOffice();
        office.ground(50, 50, 50, 50, 0, 0);
        office.tell(0, 100);
        Check.same(sentence + "off all of them", office.cost(7, 6, 0), 10);
        office.ground(7, 50, 7, 50, 0, 0);
        office.tell(1, 1);
        Check.same(sentence + "on the topmost", office.repair(7, 6, 0), 11);
        Check.same(sentence + "paid to the one off them", office.paid(0), 0);
        Check.same(sentence + "paid to the one on it", office.paid(1), 1);
    }
}
