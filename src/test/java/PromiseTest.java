/** Each promise of the document: ordinary inputs, the edges that it names, and wrong inputs. */
public final class PromiseTest {
    private static final Class<IndexOutOfBoundsException> NO_SUCH = IndexOutOfBoundsException.class;
    private static final Class<IllegalArgumentException> ARGUMENT = IllegalArgumentException.class;
    private static final Class<IllegalStateException> STATE = IllegalStateException.class;
    private static final int[] WRONG_PLACES = {-1, 100, Integer.MIN_VALUE, Integer.MAX_VALUE};

    public static void main(String[] args) {
        newObject();
        draft();
        draftThrows();
        lay();
        layThrows();
        move();
        moveOfNeighbours();
        moveThrows();
        cables();
        point();
        crossings();
        crossingsThrow();
        crossingsAnew();
        isWell();
        agree();
        agreeThrows();
        isAgreed();
        agreementsFall();
        bare();
        ground();
        groundThrows();
        tell();
        tellThrows();
        isClosed();
        touches();
        touchesThrows();
        lifted();
        cost();
        costWithoutAgreement();
        repair();
        repairsEnd();
        repairThrows();
        paid();
        fullOffice();
        Check.end("PromiseTest");
    }

    // ---- promise 1

    private static void newObject() {
        CableOffice office = new CableOffice();
        Check.same("1: cables", office.cables(), 0);
        Check.same("1: bare", office.bare(), 0);
        Check.fails("1: lay of an empty draft", STATE, () -> office.lay());
        Check.fails("1: point", NO_SUCH, () -> office.point(0, 0));
        Check.fails("1: crossings", NO_SUCH, () -> office.crossings(0, 0));
        Check.fails("1: paid", NO_SUCH, () -> office.paid(0));
        Check.same("1: draft", office.draft(0, 0), 1);
        Check.same("1: ground", Offices.everywhere(office, 0, 0), 0);
        CableOffice other = new CableOffice();
        Check.same("1: draft of another object", other.draft(0, 0), 1);
        Check.same("1: ground of another object", Offices.everywhere(other, 0, 0), 0);
    }

    // ---- promise 2

    private static void draft() {
        CableOffice office = new CableOffice();
        Check.same("2: the lowest place", office.draft(0, 0), 1);
        Check.same("2: the highest place", office.draft(99, 99), 2);
        Check.same("2: the same x", office.draft(99, 98), 3);
        Check.same("2: the same y", office.draft(98, 98), 4);
        Check.same("2: a place of an earlier point", office.draft(99, 98), 5);
        Check.same("2: the sixth", office.draft(5, 5), 6);
        Check.same("2: the seventh", office.draft(6, 6), 7);
        Check.same("2: the eighth", office.draft(7, 7), 8);
        Check.fails("2: the ninth", STATE, () -> office.draft(8, 8));
        office.lay();
        Check.same("2: the last point of a laid draft does not count", office.draft(7, 7), 1);
    }

    private static void draftThrows() {
        CableOffice office = new CableOffice();
        for (int wrong : WRONG_PLACES) {
            Check.fails("2: x " + wrong, ARGUMENT, () -> office.draft(wrong, 5));
            Check.fails("2: y " + wrong, ARGUMENT, () -> office.draft(5, wrong));
        }
        Check.same("2: what throws adds nothing", office.draft(5, 5), 1);
        Check.fails("2: the last place again", STATE, () -> office.draft(5, 5));
        for (int k = 2; k <= 8; k++) {
            Check.same("2: after the last place again", office.draft(k, 9), k);
        }
        Check.fails("2: the range ahead of the full draft", ARGUMENT, () -> office.draft(100, 5));
        Check.same("2: lay", office.lay(), 0);
        Check.same("2: the eighth point", office.point(0, 7), 809);
        Check.fails("2: no ninth point", NO_SUCH, () -> office.point(0, 8));
    }

    // ---- promise 3

    private static void lay() {
        CableOffice office = new CableOffice();
        Check.same("3: the first", Offices.cable(office, 1, 2, 3, 4), 0);
        Check.same("3: the draft is empty then", office.draft(3, 4), 1);
        Check.same("3: the next draft", office.draft(5, 6), 2);
        Check.same("3: the second", office.lay(), 1);
        Check.same("3: the first keeps its beginning", office.point(0, 0), 102);
        Check.same("3: the first keeps its end", office.point(0, 1), 304);
        Check.same("3: the second's beginning", office.point(1, 0), 304);
        Check.same("3: the second's end", office.point(1, 1), 506);
        Check.same("3: eight points", Offices.cable(office, 0, 0, 1, 0, 2, 0, 3, 0, 4, 0, 5, 0, 6, 0, 7, 0), 2);
        Check.same("3: two points after eight", Offices.cable(office, 8, 8, 9, 9), 3);
        Check.fails("3: no third point", NO_SUCH, () -> office.point(3, 2));
    }

    private static void layThrows() {
        CableOffice office = new CableOffice();
        Check.fails("3: an empty draft", STATE, () -> office.lay());
        office.draft(1, 1);
        Check.fails("3: a draft of one point", STATE, () -> office.lay());
        Check.same("3: the draft stays", office.draft(2, 2), 2);
        Check.same("3: two points", office.lay(), 0);
        Check.fails("3: empty again", STATE, () -> office.lay());
        for (int k = 1; k < 8; k++) {
            Check.same("3: the next number", Offices.cable(office, k, k, 50, 50), k);
        }
        office.draft(1, 1);
        office.draft(2, 2);
        Check.fails("3: the ninth", STATE, () -> office.lay());
        Check.same("3: the draft of the ninth stays", office.draft(3, 3), 3);
        Check.same("3: eight cables", office.cables(), 8);
    }

    // ---- promise 4

    private static void move() {
        CableOffice office = Offices.comb(3);
        for (int k = 1; k <= 3; k++) {
            office.agree(k, 0);
        }
        Check.same("4: nothing falls", office.move(0, 0, 0, 5), 0);
        Check.same("4: the place", office.point(0, 0), 5);
        Check.same("4: the other place", office.point(0, 1), 904);
        Check.same("4: to its own place", office.move(0, 0, 0, 5), 0);
        Check.same("4: beyond cable 2", office.move(0, 1, 2, 4), 1);
        Check.same("4: 3 fell", office.isAgreed(0, 3), false);
        Check.same("4: 2 did not", office.isAgreed(0, 2), true);
        Check.same("4: it does not come back", office.move(0, 1, 9, 4), 0);
        Check.same("4: 3 stays fallen", office.isAgreed(0, 3), false);
        Check.same("4: at an angle", office.move(0, 1, 3, 6), 0);
        Check.same("4: too flat for both", office.move(0, 0, 0, 0), 2);
        Check.same("4: they cross yet", office.crossings(0, 1), 1);
        Check.same("4: an upper one moves", office.move(3, 1, 3, 1), 0);
        Check.same("4: all are bare or away", office.bare(), 2);
    }

    private static void moveOfNeighbours() {
        CableOffice office = new CableOffice();
        Offices.cable(office, 1, 1, 2, 2, 3, 3, 4, 4);
        Check.fails("4: the place ahead", STATE, () -> office.move(0, 1, 1, 1));
        Check.fails("4: the place behind", STATE, () -> office.move(0, 1, 3, 3));
        Check.fails("4: the first to the second", STATE, () -> office.move(0, 0, 2, 2));
        Check.fails("4: the last to the one ahead", STATE, () -> office.move(0, 3, 3, 3));
        Check.same("4: what throws moves nothing", office.point(0, 1), 202);
        Check.same("4: the place two behind", office.move(0, 1, 4, 4), 0);
        Check.same("4: the place of the last, by the first", office.move(0, 0, 3, 3), 0);
        Check.same("4: the same x as the one ahead", office.move(0, 1, 3, 4), 0);
        Check.same("4: the same y as the one ahead", office.move(0, 1, 4, 3), 0);
        Offices.cable(office, 9, 9, 8, 8, 9, 9);
        Offices.cable(office, 7, 7, 6, 6);
        Check.same("4: a place that an earlier draft had behind", office.move(2, 1, 9, 9), 0);
    }

    private static void moveThrows() {
        CableOffice office = Offices.comb(1);
        Check.fails("4: cable -1", NO_SUCH, () -> office.move(-1, 0, 1, 1));
        Check.fails("4: cable 2", NO_SUCH, () -> office.move(2, 0, 1, 1));
        Check.fails("4: point -1", NO_SUCH, () -> office.move(0, -1, 1, 1));
        Check.fails("4: point 2", NO_SUCH, () -> office.move(0, 2, 1, 1));
        Check.fails("4: point 8", NO_SUCH, () -> office.move(0, 8, 1, 1));
        Check.fails("4: far cable", NO_SUCH, () -> office.move(Integer.MAX_VALUE, 0, 1, 1));
        Check.fails("4: far point", NO_SUCH, () -> office.move(0, Integer.MIN_VALUE, 1, 1));
        Check.fails("4: the cable ahead of the range", NO_SUCH, () -> office.move(2, 0, 100, 1));
        for (int wrong : WRONG_PLACES) {
            Check.fails("4: x " + wrong, ARGUMENT, () -> office.move(0, 0, wrong, 1));
            Check.fails("4: y " + wrong, ARGUMENT, () -> office.move(0, 0, 1, wrong));
        }
        Check.same("4: what throws moves nothing", office.point(0, 0), 4);
        Check.same("4: the edges", office.move(0, 0, 99, 0) + office.move(0, 0, 0, 99), 0);
    }

    // ---- promise 5

    private static void cables() {
        CableOffice office = new CableOffice();
        for (int k = 0; k < 8; k++) {
            Check.same("5: cables", office.cables(), k);
            office.draft(k, 0);
            office.draft(k, 9);
            Check.same("5: a draft is none", office.cables(), k);
            office.lay();
        }
        Check.same("5: cables at the end", office.cables(), 8);
    }

    // ---- promise 6

    private static void point() {
        CableOffice office = new CableOffice();
        Offices.cable(office, 0, 7, 12, 34, 99, 99);
        Check.same("6: a point with x 0", office.point(0, 0), 7);
        Check.same("6: a point", office.point(0, 1), 1234);
        Check.same("6: the last point", office.point(0, 2), 9999);
        Check.fails("6: point 3", NO_SUCH, () -> office.point(0, 3));
        Check.fails("6: point -1", NO_SUCH, () -> office.point(0, -1));
        Check.fails("6: cable 1", NO_SUCH, () -> office.point(1, 0));
        Check.fails("6: cable -1", NO_SUCH, () -> office.point(-1, 0));
        Check.fails("6: far", NO_SUCH, () -> office.point(Integer.MIN_VALUE, Integer.MAX_VALUE));
    }

    // ---- promise 7

    private static void crossings() {
        CableOffice office = new CableOffice();
        Offices.cable(office, 0, 0, 10, 0, 10, 5, 0, 5);
        Offices.cable(office, 4, 9, 4, 2, 6, 2, 6, 9);
        Check.same("7: two legs", office.crossings(0, 1), 2);
        Check.same("7: the other way round", office.crossings(1, 0), 2);
        Check.same("7: with itself", office.crossings(0, 0), 0);
        office.move(1, 1, 4, 0);
        Check.same("7: the end of two pieces counts twice", office.crossings(0, 1), 4);
        office.move(1, 2, 6, 0);
        Check.same("7: on one line, and two ends", office.crossings(0, 1), 5);
        office.move(1, 0, 4, 5);
        Check.same("7: an end on a piece", office.crossings(0, 1), 5);
        office.move(1, 0, 4, 4);
        Check.same("7: ahead of the piece", office.crossings(0, 1), 4);
        Offices.cable(office, 11, 0, 20, 0);
        Check.same("7: on one line, apart", office.crossings(0, 2), 0);
        office.move(2, 0, 10, 0);
        Check.same("7: on one line, end on end, and the corner", office.crossings(0, 2), 2);
        Offices.cable(office, 0, 2, 1, 4);
        Offices.cable(office, 0, 4, 1, 3);
        Check.same("7: at a place of no whole numbers", office.crossings(3, 4), 1);
    }

    private static void crossingsThrow() {
        CableOffice office = Offices.comb(1);
        for (int wrong : new int[] {-1, 2, 8, Integer.MIN_VALUE, Integer.MAX_VALUE}) {
            Check.fails("7: one " + wrong, NO_SUCH, () -> office.crossings(wrong, 0));
            Check.fails("7: other " + wrong, NO_SUCH, () -> office.crossings(0, wrong));
            Check.fails("8: one " + wrong, NO_SUCH, () -> office.crossingsAnew(wrong, 0));
            Check.fails("8: other " + wrong, NO_SUCH, () -> office.crossingsAnew(0, wrong));
            Check.fails("9: one " + wrong, NO_SUCH, () -> office.isWell(wrong, 0));
            Check.fails("9: other " + wrong, NO_SUCH, () -> office.isWell(0, wrong));
            Check.fails("10: one " + wrong, NO_SUCH, () -> office.agree(wrong, 0));
            Check.fails("10: other " + wrong, NO_SUCH, () -> office.agree(0, wrong));
            Check.fails("11: one " + wrong, NO_SUCH, () -> office.isAgreed(wrong, 0));
            Check.fails("11: other " + wrong, NO_SUCH, () -> office.isAgreed(0, wrong));
            Check.fails("7: both " + wrong, NO_SUCH, () -> office.crossings(wrong, wrong));
            Check.fails("8: both " + wrong, NO_SUCH, () -> office.crossingsAnew(wrong, wrong));
        }
    }

    // ---- promise 8

    private static void crossingsAnew() {
        CableOffice office = new CableOffice();
        Offices.cable(office, 0, 0, 9, 0, 9, 9);
        Offices.cable(office, 5, 5, 12, 5);
        Check.same("8: one", office.crossingsAnew(0, 1), 1);
        Check.same("8: the other way round", office.crossingsAnew(1, 0), 1);
        Check.same("8: with itself", office.crossingsAnew(0, 0), 0);
        Check.same("8: with itself, the upper", office.crossingsAnew(1, 1), 0);
        office.move(1, 0, 9, 0);
        Check.same("8: the corner", office.crossingsAnew(0, 1), 2);
        office.move(1, 0, 10, 0);
        Check.same("8: beside", office.crossingsAnew(0, 1), 0);
    }

    // ---- promise 9

    private static void isWell() {
        CableOffice office = new CableOffice();
        Offices.cable(office, 0, 0, 10, 0);
        Offices.cable(office, 5, 0, 8, 3);
        Check.same("9: at 45 degrees", office.isWell(0, 1), true);
        Check.same("9: the other way round", office.isWell(1, 0), true);
        office.move(1, 1, 9, 3);
        Check.same("9: a little flatter", office.isWell(0, 1), false);
        office.move(1, 1, 2, 3);
        Check.same("9: at 135 degrees", office.isWell(0, 1), true);
        office.move(1, 1, 1, 3);
        Check.same("9: flatter backwards", office.isWell(0, 1), false);
        office.move(1, 1, 8, 0);
        Check.same("9: on one line", office.isWell(0, 1), false);
        Check.same("9: with itself", office.isWell(1, 1), false);
        office.move(1, 0, 5, 1);
        office.move(1, 1, 5, 9);
        Check.same("9: steep, but they do not cross", office.isWell(0, 1), false);
        Offices.cable(office, 2, 5, 2, 0, 4, 3, 9, 0);
        Check.same("9: one of two pieces is flat", office.isWell(0, 2), false);
        office.move(2, 3, 9, 1);
        Check.same("9: the flat one ends ahead", office.isWell(0, 2), true);
    }

    // ---- promises 10 and 11

    private static void agree() {
        CableOffice office = Offices.comb(3);
        Check.same("10: three are bare, two then", office.agree(0, 2), 2);
        Check.same("10: the upper first", office.agree(3, 0), 1);
        Check.same("10: the last", office.agree(0, 1), 0);
        Check.same("10: agreed", office.isAgreed(0, 3), true);
    }

    private static void agreeThrows() {
        CableOffice office = Offices.comb(2);
        Offices.cable(office, 0, 3, 9, 5);
        Check.fails("10: with itself", STATE, () -> office.agree(1, 1));
        Check.fails("10: they do not cross", STATE, () -> office.agree(1, 2));
        Check.fails("10: they cross flatly", STATE, () -> office.agree(0, 3));
        Check.same("10: no agreement by that", office.isAgreed(0, 3), false);
        Check.same("10: bare all the same", office.bare(), 5);
        Check.same("10: one", office.agree(0, 1), 4);
        Check.fails("10: again", STATE, () -> office.agree(0, 1));
        Check.fails("10: again, the other way round", STATE, () -> office.agree(1, 0));
        Check.same("10: it stands", office.isAgreed(0, 1), true);
        Check.same("10: bare as before", office.bare(), 4);
    }

    private static void isAgreed() {
        CableOffice office = Offices.comb(2);
        Check.same("11: not at first", office.isAgreed(0, 1), false);
        office.agree(0, 1);
        Check.same("11: then", office.isAgreed(0, 1), true);
        Check.same("11: the other way round", office.isAgreed(1, 0), true);
        Check.same("11: not another pair", office.isAgreed(0, 2), false);
        Check.same("11: not a cable with itself", office.isAgreed(0, 0), false);
        Offices.cable(office, 5, 5, 6, 6);
        Check.same("11: laying changes nothing", office.isAgreed(0, 1), true);
    }

    private static void agreementsFall() {
        CableOffice office = Offices.comb(2);
        office.agree(0, 1);
        office.agree(0, 2);
        Check.same("11: another stands, when it moves away", office.move(1, 1, 1, 1), 1);
        Check.same("11: fallen", office.isAgreed(0, 1), false);
        Check.same("11: the other stands", office.isAgreed(0, 2), true);
        office.move(1, 1, 1, 9);
        Check.same("11: it does not come back", office.isAgreed(0, 1), false);
        Check.same("10: it is made again", office.agree(0, 1), 0);
        Check.same("11: steeply yet, at the edge", office.move(1, 1, 10, 9), 0);
        Check.same("11: too flat", office.move(1, 1, 11, 9), 1);
        Check.fails("10: not too flatly", STATE, () -> office.agree(0, 1));
    }

    // ---- promise 12

    private static void bare() {
        CableOffice office = Offices.comb(0);
        Check.same("12: one cable", office.bare(), 0);
        Offices.cable(office, 1, 0, 1, 9);
        Check.same("12: one pair", office.bare(), 1);
        Offices.cable(office, 0, 4, 9, 4);
        Check.same("12: flat pairs too", office.bare(), 3);
        office.agree(1, 2);
        Check.same("12: less the agreed", office.bare(), 2);
        office.move(1, 1, 1, 1);
        Check.same("12: less those that cross no more", office.bare(), 1);
        office.move(1, 1, 1, 9);
        Check.same("12: they cross anew", office.bare(), 3);
    }

    // ---- promise 13

    private static void ground() {
        CableOffice office = new CableOffice();
        Check.same("13: all", office.ground(0, 0, 99, 99, 0, 11), 0);
        Check.same("13: one place", office.ground(99, 99, 99, 99, 11, 0), 1);
        Check.same("13: an upright line", office.ground(5, 0, 5, 99, 11, 11), 2);
        Check.same("13: a level line", office.ground(0, 5, 99, 5, 0, 0), 3);
        Check.same("13: the fifth", office.ground(0, 0, 0, 0, 3, 2), 4);
        Check.fails("13: the sixth", STATE, () -> office.ground(0, 0, 99, 99, 0, 11));
        Check.fails("13: the range first", ARGUMENT, () -> office.ground(0, 0, 99, 100, 0, 11));
        Check.fails("13: the month first", ARGUMENT, () -> office.ground(0, 0, 99, 99, 0, 12));
    }

    private static void groundThrows() {
        CableOffice office = new CableOffice();
        for (int wrong : WRONG_PLACES) {
            Check.fails("13: left " + wrong, ARGUMENT, () -> office.ground(wrong, 0, 99, 99, 0, 0));
            Check.fails("13: low " + wrong, ARGUMENT, () -> office.ground(0, wrong, 99, 99, 0, 0));
            Check.fails("13: right " + wrong, ARGUMENT, () -> office.ground(0, 0, wrong, 99, 0, 0));
            Check.fails("13: high " + wrong, ARGUMENT, () -> office.ground(0, 0, 99, wrong, 0, 0));
        }
        for (int wrong : new int[] {-1, 12, Integer.MIN_VALUE, Integer.MAX_VALUE}) {
            Check.fails("13: from " + wrong, ARGUMENT, () -> office.ground(0, 0, 99, 99, wrong, 0));
            Check.fails("13: to " + wrong, ARGUMENT, () -> office.ground(0, 0, 99, 99, 0, wrong));
        }
        Check.fails("13: right of right", ARGUMENT, () -> office.ground(6, 0, 5, 99, 0, 0));
        Check.fails("13: high of high", ARGUMENT, () -> office.ground(0, 6, 99, 5, 0, 0));
        Check.same("13: what throws adds nothing", office.ground(0, 0, 9, 9, 0, 0), 0);
    }

    // ---- promise 14

    private static void tell() {
        CableOffice office = new CableOffice();
        Offices.everywhere(office, 0, 0);
        Offices.everywhere(office, 0, 0);
        Check.same("14: the first", office.tell(0, 7), 7);
        Check.same("14: rounded down", office.tell(0, 4), 5);
        Check.same("14: of another ground", office.tell(1, 1000000), 1000000);
        Check.same("14: of three", office.tell(0, 0), 3);
        Check.same("14: zero counts", office.tell(1, 0), 500000);
        Check.same("14: of four", office.tell(0, 4), 3);
    }

    private static void tellThrows() {
        CableOffice office = new CableOffice();
        Check.fails("14: no ground", NO_SUCH, () -> office.tell(0, 5));
        Offices.everywhere(office, 0, 0);
        Check.fails("14: ground 1", NO_SUCH, () -> office.tell(1, 5));
        Check.fails("14: ground -1", NO_SUCH, () -> office.tell(-1, 5));
        Check.fails("14: the ground ahead of the amount", NO_SUCH, () -> office.tell(1, -1));
        Check.fails("14: amount -1", ARGUMENT, () -> office.tell(0, -1));
        Check.fails("14: amount 1000001", ARGUMENT, () -> office.tell(0, 1000001));
        Check.fails("14: the least amount", ARGUMENT, () -> office.tell(0, Integer.MIN_VALUE));
        for (int k = 1; k <= 100; k++) {
            Check.same("14: catch " + k, office.tell(0, 1000000), 1000000);
        }
        Check.fails("14: catch 101", STATE, () -> office.tell(0, 0));
        Check.fails("14: the amount ahead of the 101st", ARGUMENT, () -> office.tell(0, -1));
        Offices.everywhere(office, 0, 0);
        Check.same("14: another ground has its own hundred", office.tell(1, 3), 3);
    }

    // ---- promise 15

    private static void isClosed() {
        CableOffice office = new CableOffice();
        int[][] months = {{2, 4}, {10, 1}, {6, 6}, {0, 11}, {3, 2}};
        String[] closed = {"..###.......", "##........##", "......#.....", "############", "############"};
        for (int ground = 0; ground < 5; ground++) {
            Offices.everywhere(office, months[ground][0], months[ground][1]);
            for (int month = 0; month < 12; month++) {
                Check.same("15: ground " + ground + " in " + month,
                        office.isClosed(ground, month), closed[ground].charAt(month) == '#');
            }
        }
        Check.fails("15: ground -1", NO_SUCH, () -> office.isClosed(-1, 0));
        Check.fails("15: ground 5", NO_SUCH, () -> office.isClosed(5, 0));
        Check.fails("15: the ground ahead of the month", NO_SUCH, () -> office.isClosed(5, 12));
        Check.fails("15: month -1", ARGUMENT, () -> office.isClosed(0, -1));
        Check.fails("15: month 12", ARGUMENT, () -> office.isClosed(0, 12));
        Check.fails("15: ground 0 of none", NO_SUCH, () -> new CableOffice().isClosed(0, 0));
    }

    // ---- promise 16

    private static void touches() {
        CableOffice office = new CableOffice();
        Offices.cable(office, 10, 10, 20, 20, 30, 20);
        office.ground(12, 12, 15, 15, 0, 0);
        office.ground(0, 20, 20, 30, 0, 0);
        office.ground(16, 10, 20, 15, 0, 0);
        office.ground(15, 15, 15, 15, 0, 0);
        office.ground(22, 0, 24, 99, 0, 0);
        boolean[] first = {true, true, false, true, false};
        boolean[] second = {false, true, false, false, true};
        for (int ground = 0; ground < 5; ground++) {
            Check.same("16: piece 0, ground " + ground, office.touches(0, 0, ground), first[ground]);
            Check.same("16: piece 1, ground " + ground, office.touches(0, 1, ground), second[ground]);
        }
        office.move(0, 0, 13, 14);
        office.move(0, 1, 14, 13);
        Check.same("16: wholly within", office.touches(0, 0, 0), true);
        office.move(0, 0, 11, 14);
        office.move(0, 1, 14, 11);
        Check.same("16: by no corner within", office.touches(0, 0, 0), true);
        office.move(0, 0, 10, 14);
        office.move(0, 1, 14, 10);
        Check.same("16: by a corner alone", office.touches(0, 0, 0), true);
        office.move(0, 0, 10, 13);
        office.move(0, 1, 13, 10);
        Check.same("16: a little beside the corner", office.touches(0, 0, 0), false);
    }

    private static void touchesThrows() {
        CableOffice office = Offices.comb(1);
        Check.fails("16: no ground", NO_SUCH, () -> office.touches(0, 0, 0));
        Offices.everywhere(office, 0, 0);
        Check.same("16: all there", office.touches(1, 0, 0), true);
        Check.fails("16: cable 2", NO_SUCH, () -> office.touches(2, 0, 0));
        Check.fails("16: cable -1", NO_SUCH, () -> office.touches(-1, 0, 0));
        Check.fails("16: the last point is no piece", NO_SUCH, () -> office.touches(0, 1, 0));
        Check.fails("16: piece -1", NO_SUCH, () -> office.touches(0, -1, 0));
        Check.fails("16: ground 1", NO_SUCH, () -> office.touches(0, 0, 1));
        Check.fails("16: ground -1", NO_SUCH, () -> office.touches(0, 0, -1));
    }

    // ---- promise 17

    private static void lifted() {
        CableOffice office = new CableOffice();
        Offices.cable(office, 0, 0, 9, 0, 9, 9);
        Offices.cable(office, 3, 0, 3, 5, 0, 5);
        Offices.cable(office, 1, 4, 1, 6);
        Offices.cable(office, 2, 3, 5, 3);
        Check.same("17: all that lies above", office.lifted(0, 0), 3);
        Check.same("17: nothing above", office.lifted(0, 1), 1);
        Check.same("17: not what lies below", office.lifted(1, 0), 2);
        Check.same("17: the other leg", office.lifted(1, 1), 2);
        Check.same("17: the topmost", office.lifted(3, 0), 1);
        office.move(2, 0, 1, 0);
        Check.same("17: each once", office.lifted(0, 0), 4);
        office.move(3, 0, 1, 5);
        Check.same("17: by way of both", office.lifted(0, 0), 4);
        Check.fails("17: cable 4", NO_SUCH, () -> office.lifted(4, 0));
        Check.fails("17: cable -1", NO_SUCH, () -> office.lifted(-1, 0));
        Check.fails("17: the last point is no piece", NO_SUCH, () -> office.lifted(0, 2));
        Check.fails("17: piece -1", NO_SUCH, () -> office.lifted(0, -1));
        Check.fails("17: far", NO_SUCH, () -> office.lifted(Integer.MAX_VALUE, Integer.MAX_VALUE));
    }

    // ---- promise 18

    private static void cost() {
        CableOffice office = Offices.comb(2);
        office.agree(0, 1);
        office.agree(0, 2);
        office.ground(0, 4, 0, 4, 3, 5);
        office.ground(1, 8, 2, 9, 5, 5);
        office.ground(50, 50, 60, 60, 0, 11);
        Check.same("18: prices of 0", office.cost(0, 0, 5), 30);
        office.tell(0, 100);
        office.tell(1, 1000);
        office.tell(2, 7);
        Check.same("18: none closed", office.cost(0, 0, 2), 30);
        Check.same("18: one closed", office.cost(0, 0, 3), 130);
        Check.same("18: both closed, each once", office.cost(0, 0, 5), 1130);
        Check.same("18: a piece that is off the first", office.cost(1, 0, 5), 1010);
        Check.same("18: the price as it is then", office.tell(0, 1), 50);
        Check.same("18: by that price", office.cost(0, 0, 3), 80);
        Check.same("18: nothing is paid", office.paid(0), 0);
        Check.fails("18: cable 3", NO_SUCH, () -> office.cost(3, 0, 0));
        Check.fails("18: cable -1", NO_SUCH, () -> office.cost(-1, 0, 0));
        Check.fails("18: piece 1", NO_SUCH, () -> office.cost(0, 1, 0));
        Check.fails("18: piece -1", NO_SUCH, () -> office.cost(0, -1, 0));
        Check.fails("18: the piece ahead of the month", NO_SUCH, () -> office.cost(0, 1, 12));
        Check.fails("18: month 12", ARGUMENT, () -> office.cost(0, 0, 12));
        Check.fails("18: month -1", ARGUMENT, () -> office.cost(0, 0, -1));
    }

    private static void costWithoutAgreement() {
        CableOffice office = Offices.comb(2);
        Offices.cable(office, 1, 8, 2, 8);
        office.agree(0, 1);
        Check.same("18: a bare pair", office.cost(0, 0, 0), CableOffice.NONE);
        office.agree(0, 2);
        Check.same("18: a bare pair further up", office.cost(0, 0, 0), CableOffice.NONE);
        Check.same("18: a bare pair above", office.cost(1, 0, 0), CableOffice.NONE);
        Check.same("18: a bare pair below is none of it", office.cost(3, 0, 0), 10);
        office.agree(1, 3);
        Check.same("18: two lifted ones that cross, one not by way of the other", office.cost(0, 0, 0),
                CableOffice.NONE);
        Check.same("18: that pair is not lifted", office.cost(1, 0, 0), 20);
        office.agree(3, 2);
        Check.same("18: all agreed", office.cost(0, 0, 0), 40);
        Offices.cable(office, 8, 0, 9, 4, 10, 0);
        Check.same("18: a bare pair of the piece", office.cost(0, 0, 0), CableOffice.NONE);
        Check.same("18: it crosses well", office.agree(4, 0), 0);
        Check.same("18: two pieces more", office.cost(0, 0, 0), 60);
    }

    // ---- promise 19

    private static void repair() {
        CableOffice office = Offices.comb(1);
        office.agree(0, 1);
        office.ground(0, 4, 0, 4, 11, 0);
        office.ground(1, 9, 1, 9, 0, 0);
        office.tell(0, 100);
        office.tell(1, 3);
        Check.same("19: both", office.repair(0, 0, 0), 123);
        Check.same("19: one", office.repair(0, 0, 11), 120);
        Check.same("19: the upper alone", office.repair(1, 0, 0), 13);
        Check.same("19: an open month", office.repair(0, 0, 5), 20);
        Check.same("19: paid to the first", office.paid(0), 200);
        Check.same("19: paid to the second", office.paid(1), 6);
        Check.same("19: nothing moved", office.lifted(0, 0), 2);
        Check.same("19: the agreement stands", office.isAgreed(0, 1), true);
    }

    private static void repairsEnd() {
        CableOffice office = new CableOffice();
        Offices.cable(office, 0, 0, 9, 9);
        Offices.everywhere(office, 0, 0);
        office.tell(0, 1000000);
        for (int k = 1; k <= 500; k++) {
            Check.same("19: repair " + k, office.repair(0, 0, 0), 1000010);
        }
        Check.fails("19: repair 501", STATE, () -> office.repair(0, 0, 0));
        Check.fails("19: the month ahead of repair 501", ARGUMENT, () -> office.repair(0, 0, 12));
        Check.same("20: paid by 500 repairs", office.paid(0), 500000000);
        Check.same("18: the cost of a repair that is possible", office.cost(0, 0, 0), 1000010);
    }

    private static void repairThrows() {
        CableOffice office = Offices.comb(1);
        Offices.everywhere(office, 0, 0);
        office.tell(0, 5);
        Check.fails("19: a bare pair", STATE, () -> office.repair(0, 0, 0));
        Check.fails("19: cable 2", NO_SUCH, () -> office.repair(2, 0, 0));
        Check.fails("19: cable -1", NO_SUCH, () -> office.repair(-1, 0, 0));
        Check.fails("19: piece 1", NO_SUCH, () -> office.repair(0, 1, 0));
        Check.fails("19: piece -1", NO_SUCH, () -> office.repair(0, -1, 0));
        Check.fails("19: the piece ahead of the month", NO_SUCH, () -> office.repair(0, 1, -1));
        Check.fails("19: the month ahead of the bare pair", ARGUMENT, () -> office.repair(0, 0, -1));
        Check.fails("19: month 12", ARGUMENT, () -> office.repair(1, 0, 12));
        Check.same("20: what throws pays nothing", office.paid(0), 0);
        for (int k = 1; k <= 490; k++) {
            Check.same("19: repair " + k + " after those that threw", office.repair(1, 0, 0), 15);
        }
    }

    // ---- promise 20

    private static void paid() {
        CableOffice office = new CableOffice();
        Offices.cable(office, 0, 0, 9, 9);
        Offices.everywhere(office, 0, 5);
        Offices.everywhere(office, 5, 6);
        Check.same("20: at first", office.paid(0), 0);
        office.repair(0, 0, 0);
        Check.same("20: a price of 0", office.paid(0), 0);
        office.tell(0, 8);
        office.repair(0, 0, 5);
        office.tell(0, 4);
        Check.same("20: by the price of then", office.paid(0), 8);
        office.repair(0, 0, 1);
        Check.same("20: all together", office.paid(0), 14);
        Check.same("20: none was told", office.paid(1), 0);
        Check.fails("20: ground 2", NO_SUCH, () -> office.paid(2));
        Check.fails("20: ground -1", NO_SUCH, () -> office.paid(-1));
        Check.fails("20: far", NO_SUCH, () -> office.paid(Integer.MAX_VALUE));
    }

    // ---- all of them, with no cable and no ground to spare

    private static void fullOffice() {
        CableOffice office = new CableOffice();
        for (int k = 0; k < 8; k += 2) {
            Offices.cable(office, 0, 10 + k, 99, 10 + k);
            Offices.cable(office, 10 + k, 0, 10 + k, 99);
        }
        for (int k = 0; k < 5; k++) {
            Offices.everywhere(office, k, k + 1);
            office.tell(k, 100 * k);
        }
        Check.same("12: each level one with each upright one", office.bare(), 16);
        Check.same("17: all of them", office.lifted(0, 0), 8);
        Check.same("18: bare pairs", office.cost(0, 0, 4), CableOffice.NONE);
        for (int level = 0; level < 8; level += 2) {
            for (int upright = 1; upright < 8; upright += 2) {
                office.agree(level, upright);
            }
        }
        Check.same("12: all are agreed", office.bare(), 0);
        Check.same("18: all of them, two closed", office.cost(0, 0, 4), 780);
        Check.same("19: all of them, two closed", office.repair(0, 0, 4), 780);
        Check.same("19: the topmost", office.repair(7, 0, 5), 410);
        Check.same("20: the fourth", office.paid(3), 300);
        Check.same("20: the fifth", office.paid(4), 800);
        Check.same("4: the topmost away from all", office.move(7, 1, 16, 9), 4);
        Check.same("4: the lowest away from the rest", office.move(0, 1, 9, 10), 3);
        Check.same("17: nothing lies on it", office.lifted(0, 0), 1);
    }
}
