/** Runs of some 512 calls, the same each time, whose answers must be those of the model. */
public final class ModelRunsTest {
    private static final int RUNS = 400;
    private static final int CALLS = 512;

    private final CableOffice office = new CableOffice();
    private final Model model = new Model();
    private final String name;
    // The field's side: in a small one pieces meet often at ends and on one line.
    private final int side;
    private long seed;
    private int calls = 0;

    private ModelRunsTest(int run) {
        name = "run " + run;
        side = new int[] {4, 7, 12, 100}[run % 4];
        seed = run * 7919L + 13;
    }

    public static void main(String[] args) {
        for (int run = 0; run < RUNS; run++) {
            ModelRunsTest test = new ModelRunsTest(run);
            // A step is one call or two.
            while (test.calls < CALLS - 1) {
                test.callAny();
            }
        }
        Check.end("ModelRunsTest");
    }

    /** A number from 0 to below the bound, by a fixed rule. */
    private int any(int bound) {
        seed = seed * 6364136223846793005L + 1442695040888963407L;
        return (int) ((seed >>> 33) % bound);
    }

    /** Mostly 0 to most, now and then one beside. */
    private int nearly(int most) {
        int slip = any(60);
        return slip == 0 ? -1 : slip == 1 ? most + 1 : any(most + 1);
    }

    private int place() {
        return any(200) == 0 ? 100 - 101 * any(2) : any(side);
    }

    private void compare(String text, Object due, Check.Call run) {
        calls++;
        Check.same(name + ", call " + calls + ": " + text, Check.answer(run), due);
    }

    private void callAny() {
        int kind = any(100);
        if (calls < 90 && kind < 60 || kind < 4) {
            route();
        } else if (kind < 16) {
            moveOne();
        } else if (kind < 58) {
            pair();
        } else if (kind < 76) {
            works();
        } else {
            grounds();
        }
    }

    private void route() {
        int x = place();
        int y = place();
        if (any(4) == 0) {
            compare("lay()", model.lay(), () -> office.lay());
        } else {
            compare("draft(" + x + ", " + y + ")", model.draft(x, y), () -> office.draft(x, y));
        }
    }

    private void moveOne() {
        int cable = nearly(7);
        int point = nearly(any(2) == 0 ? 1 : 7);
        int x = place();
        int y = place();
        compare("move(" + cable + ", " + point + ", " + x + ", " + y + ")",
                model.move(cable, point, x, y), () -> office.move(cable, point, x, y));
        compare("point(" + cable + ", " + point + ")",
                model.point(cable, point), () -> office.point(cable, point));
    }

    private void pair() {
        int one = nearly(7);
        int other = nearly(7);
        String both = "(" + one + ", " + other + ")";
        switch (any(10)) {
            case 0 -> compare("crossings" + both, model.crossings(one, other), () -> office.crossings(one, other));
            case 1 -> compare("crossingsAnew" + both, model.crossings(one, other),
                    () -> office.crossingsAnew(one, other));
            case 2 -> compare("isWell" + both, model.isWell(one, other), () -> office.isWell(one, other));
            case 3 -> compare("isAgreed" + both, model.isAgreed(one, other), () -> office.isAgreed(one, other));
            case 4 -> compare("bare()", model.bare(), () -> office.bare());
            case 5 -> compare("cables()", model.cables(), () -> office.cables());
            default -> compare("agree" + both, model.agree(one, other), () -> office.agree(one, other));
        }
    }

    private void works() {
        int cable = nearly(7);
        int piece = nearly(any(2) == 0 ? 1 : 6);
        int month = nearly(11);
        String all = "(" + cable + ", " + piece + ", " + month + ")";
        switch (any(3)) {
            case 0 -> compare("lifted" + all, model.lifted(cable, piece), () -> office.lifted(cable, piece));
            case 1 -> compare("cost" + all, model.cost(cable, piece, month),
                    () -> office.cost(cable, piece, month));
            default -> compare("repair" + all, model.repair(cable, piece, month),
                    () -> office.repair(cable, piece, month));
        }
    }

    private void grounds() {
        int ground = nearly(4);
        int month = nearly(11);
        int amount = any(50) == 0 ? 1000000 + any(2) : any(1000) - any(20);
        int cable = nearly(7);
        int piece = nearly(any(2) == 0 ? 1 : 6);
        switch (any(5)) {
            case 0 -> newGround(month);
            case 1 -> compare("tell(" + ground + ", " + amount + ")", model.tell(ground, amount),
                    () -> office.tell(ground, amount));
            case 2 -> compare("isClosed(" + ground + ", " + month + ")", model.isClosed(ground, month),
                    () -> office.isClosed(ground, month));
            case 3 -> compare("touches(" + cable + ", " + piece + ", " + ground + ")",
                    model.touches(cable, piece, ground), () -> office.touches(cable, piece, ground));
            default -> compare("paid(" + ground + ")", model.paid(ground), () -> office.paid(ground));
        }
    }

    private void newGround(int from) {
        int left = place();
        int low = place();
        int right = any(5) == 0 ? place() : Math.min(100, left + any(side));
        int high = any(5) == 0 ? place() : Math.min(100, low + any(side));
        int to = nearly(11);
        compare("ground(" + left + ", " + low + ", " + right + ", " + high + ", " + from + ", " + to + ")",
                model.ground(left, low, right, high, from, to),
                () -> office.ground(left, low, right, high, from, to));
    }
}
