/** The words of the description on paths and planning. */
final class PlanEdges {
    private final Checks c;

    private PlanEdges(Checks checks) {
        c = checks;
    }

    static void run(Sentences s) {
        PlanEdges t = new PlanEdges(s.checks);
        s.description();
        s.test("A path is a sequence of moves that begins at the present pose.", t::beginning);
        s.test("No path leads from or to a pose that is not free, not even one without moves.", t::notFree);
        s.test("Poses are connected if a path leads from the one to the other one.", t::connection);
        s.test("The best path to some poses is, among the paths to one of them, one with the fewest moves, and among "
                + "these the one whose sequence of moves is lexicographically first.", t::best);
        s.test("The changes of a path are the pairs of successive moves that are different.", t::changes);
        s.test("The smooth path to some poses is, among the paths to one of them with the fewest moves, one with the "
                + "fewest changes, and among these the one whose sequence of moves is lexicographically first.", t::smooth);
        s.test("A path that was planned is kept, until the next one is planned, also when planning throws an exception; "
                + "after each change that History tells, and after clear, undo and restore, there is no path.", t::kept);
        s.test("It has a position, which is the number of its moves that have been followed.", t::position);
    }

    static void pathIs(Checks c, String what, LatticeArm x, int... moves) {
        c.due(what + ", length", x::pathLength, moves.length);
        for (int i = 0; i < moves.length; i++) {
            int k = i;
            c.due(what + ", move " + i, () -> x.pathMove(k), moves[i]);
        }
    }

    private void beginning() {
        LatticeArm x = Arms.arm(1, 4, 4);
        x.setValue(0, 3);
        c.due("down from 3", () -> x.planToPose(0), 7);
        x.follow(7);
        c.due("it ends at -4", () -> x.joint(0, 0), -4);
        c.due("without moves", () -> x.planToPose(0), 0);
        c.due("up from where the last one ended", () -> x.planToPose(1), 1);
        x.follow(1);
        c.due("its end", () -> x.joint(0, 0), -3);
        c.due("its beginning", () -> x.back(1) + x.joint(0, 0), -4);
    }

    private void notFree() {
        LatticeArm x = Arms.parted();
        x.bookmark('m');
        c.element("to itself", () -> x.planToPose(1));
        c.element("to its name", () -> x.planToName('m'));
        c.element("to its cell", () -> x.planToCell(2, 0));
        c.element("to its cell, smooth", () -> x.planSmooth(2, 0));
        c.element("near its cell", () -> x.planNear(2, 0));
        c.element("from it", () -> x.planToPose(0));
        c.element("from it to a cell", () -> x.planToCell(2, 2));
        c.element("from it to a cell, smooth", () -> x.planSmooth(2, -2));
        c.due("connected with it", x::connected, 0);
        x.setValue(0, -1);
        c.element("to it", () -> x.planToPose(1));
        c.element("to its name", () -> x.planToName('m'));
        c.element("to its cell", () -> x.planToCell(2, 0));
        c.due("from a free one to itself", () -> x.planToPose(0), 0);
        c.due("from a free one to its cell", () -> x.planToCell(2, -2), 0);
        c.due("from a free one to its cell, smooth", () -> x.planSmooth(2, -2), 0);
        LatticeArm y = Arms.arm(1, 8, 8, 1, 8, 8);
        y.setValue(1, 4);
        c.element("overlap, to itself", () -> y.planToPose(y.poseNumber()));
        LatticeArm z = Arms.arm(5, 1, 1, 5, 0, 0, 1, 0, 0);
        c.element("outside, to itself", () -> z.planToPose(1));
    }

    private void connection() {
        LatticeArm x = Arms.arm(2, 2, 3);
        x.addObstacle(2, 2);
        int[] due = {3, 3, 3, 0, 2, 2};
        for (int value = -2; value <= 3; value++) {
            int v = value;
            x.setValue(0, value);
            c.due("with value " + value, x::connected, due[v + 2]);
            for (int pose = 0; pose < 6; pose++) {
                int p = pose;
                boolean sameSide = v != 1 && p != 3 && v < 1 == p < 3;
                c.due("from " + v + " to pose " + p, () -> x.planToPose(p),
                        sameSide ? Math.abs(p - 2 - v) : "NoSuchElementException");
            }
        }
    }

    private void best() {
        LatticeArm x = Arms.arm(2, 8, 8);
        c.due("of several poses the nearest", () -> x.planToCell(0, -2), 2);
        pathIs(c, "nearest", x, 0, 0);
        c.due("of two as near, the first", () -> x.planToCell(-2, 0), 4);
        pathIs(c, "the first", x, 0, 0, 0, 0);
        LatticeArm y = Arms.arm(1, 0, 2, 1, 0, 2, 1, 0, 2);
        c.due("of all orders the first", () -> y.planToPose(9 * 1 + 3 * 1 + 1), 3);
        pathIs(c, "all orders", y, 1, 3, 5);
        LatticeArm z = Arms.arm(1, 0, 2, 1, 2, 0);
        c.due("the lower number first", () -> z.planToPose(6), 4);
        pathIs(c, "lower number", z, 1, 1, 2, 2);
        LatticeArm w = Arms.arm(2, 0, 1, 1, 0, 2);
        w.addObstacle(3, 1);
        c.due("not through a pose that is not free", () -> w.planToPose(2), 4);
        pathIs(c, "round", w, 1, 3, 3, 0);
        c.due("none", () -> w.planToPose(0), 0);
        pathIs(c, "none", w);
    }

    private void changes() {
        LatticeArm x = Arms.arm(2, 2, 2, 1, 2, 2, 1, 2, 2);
        int[] poses = {62, 63, 64, 68, 93, 0, 124};
        int[] moves = {0, 1, 2, 2, 3, 6, 6};
        int[] due = {0, 0, 0, 1, 2, 2, 2};
        for (int i = 0; i < poses.length; i++) {
            int pose = poses[i];
            c.due("moves to " + pose, () -> x.planToPose(pose), moves[i]);
            c.due("changes to " + pose, x::pathChanges, due[i]);
        }
        LatticeArm y = Arms.arm(2, 0, 2, 1, 0, 2);
        y.addObstacle(0, 3);
        c.due("to and fro, moves", () -> y.planToPose(8), 4);
        pathIs(c, "to and fro", y, 1, 3, 1, 3);
        c.due("each pair", y::pathChanges, 3);
    }

    private void smooth() {
        LatticeArm x = Arms.arm(2, 0, 2, 1, 0, 2);
        x.addObstacle(0, 3);
        c.due("fewer changes than the best one", () -> x.planSmooth(-1, 2), 1);
        pathIs(c, "fewer changes", x, 3, 3, 1, 1);
        LatticeArm y = Arms.arm(1, 0, 2, 1, 0, 2);
        c.due("of two with as few changes the first", () -> y.planSmooth(-1, 1), 1);
        pathIs(c, "the first", y, 1, 1, 3, 3);
        LatticeArm z = Arms.arm(2, 0, 1, 1, 0, 2);
        z.addObstacle(3, 1);
        c.due("fewest moves, though with changes", () -> z.planSmooth(2, 1), 2);
        pathIs(c, "with changes", z, 1, 3, 3, 0);
        LatticeArm w = Arms.arm(2, 8, 8);
        c.due("of two ends as near the first", () -> w.planSmooth(-2, 0), 0);
        pathIs(c, "of two ends", w, 0, 0, 0, 0);
        c.due("no moves", () -> w.planSmooth(2, 0), 0);
        pathIs(c, "no moves", w);
        smoothEnds();
    }

    /** The cell (1, 1) is as near in two poses, 0 and 2 or 2 and -2; the pose 0 and 1 between is not free. */
    private void smoothEnds() {
        LatticeArm x = Arms.arm(1, 2, 2, 1, 2, 2);
        x.addObstacle(2, 1);
        c.due("best of two ends", () -> x.planToCell(1, 1), 4);
        pathIs(c, "best of two ends", x, 0, 3, 3, 1);
        c.due("smooth to the other end", () -> x.planSmooth(1, 1), 1);
        pathIs(c, "smooth to the other end", x, 1, 1, 2, 2);
        x.addObstacle(0, 1);
        c.due("smooth to the end that is left", () -> x.planSmooth(1, 1), 2);
        pathIs(c, "smooth to the end that is left", x, 0, 3, 3, 1);
    }

    private void kept() {
        keptWhenRefused();
        LatticeArm x = Arms.arm(2, 4, 4);
        x.planToPose(8);
        x.planToPose(3);
        c.due("until the next one", x::pathLength, 1);
        x.planNear(2, 0);
        c.due("until the next one without moves", x::pathLength, 0);
        gone("clear", LatticeArm::clear);
        gone("undo", LatticeArm::undo);
        gone("restore", LatticeArm::restore);
        gone("addLink", y -> y.addLink(1, 0, 0));
        gone("removeLink", LatticeArm::removeLink);
        gone("setLimits to the same ones", y -> y.setLimits(0, 3, 2));
        gone("addObstacle", y -> y.addObstacle(10, 10));
        gone("removeObstacle", y -> y.removeObstacle(9, 9));
        gone("setValue to the same one", y -> y.setValue(0, y.joint(0, 0)));
        gone("move", y -> y.move(0));
        gone("read", LatticeArm::read);
    }

    private void gone(String what, Checks.Act act) {
        LatticeArm x = Arms.rich();
        c.due("before " + what, x::pathLength, 4);
        c.due(what + " is made", () -> Checks.answerOf(() -> act.on(x)).endsWith("Exception"), false);
        c.element("after " + what, x::pathLength);
        c.element("after " + what, () -> x.pathMove(0));
        c.element("after " + what, x::pathChanges);
        c.element("after " + what, () -> x.follow(1));
        c.element("after " + what, () -> x.back(1));
        c.element("after " + what, x::pathCells);
    }

    /** Each call that plans and throws leaves the path with its position. */
    private void keptWhenRefused() {
        Checks.Act[] refused = {x -> x.planToPose(-1), x -> x.planToPose(30), x -> x.planToCell(11, 0),
            x -> x.planToCell(0, 0), x -> x.planSmooth(0, -11), x -> x.planSmooth(0, 0), x -> x.planNear(-11, 0),
            x -> x.planToName('A'), x -> x.planToName('z')};
        LatticeArm x = Arms.rich();
        for (int i = 0; i < refused.length; i++) {
            int k = i;
            c.due("refused " + i, () -> Checks.answerOf(() -> refused[k].on(x)).endsWith("Exception"), true);
            pathIs(c, "kept after " + i, x, 0, 0, 0, 3);
            c.due("moves that are left", () -> x.follow(0), 2);
        }
        c.due("it can be followed", () -> x.follow(9), 0);
        c.due("its end", x::poseNumber, 8);
    }

    private void position() {
        LatticeArm x = Arms.arm(1, 4, 4);
        x.planToPose(8);
        c.due("at first", () -> x.back(0), 0);
        x.follow(0);
        c.due("none followed", () -> x.back(0), 0);
        x.follow(1);
        c.due("one followed", () -> x.back(0), 1);
        x.follow(3);
        c.due("all followed", () -> x.back(0), 4);
        x.follow(1);
        c.due("not more than all", () -> x.back(0), 4);
        c.due("one taken back", () -> x.back(1), 3);
        c.due("all taken back", () -> x.back(3), 0);
        c.due("not below 0", () -> x.back(1), 0);
        x.follow(4);
        x.planToPose(4);
        c.due("of the next path", () -> x.back(0), 0);
        c.due("the next one is as long", x::pathLength, 4);
    }
}
