/** The sentences of the promises 32 to 41: paths. */
final class PathPromises {
    private static final String ARGUMENT = "IllegalArgumentException";
    private static final String INDEX = "IndexOutOfBoundsException";
    private static final String ELEMENT = "NoSuchElementException";
    private static final String TOO_MANY = "Throws IllegalStateException if there are more than 5000 poses";
    private static final String OUTSIDE = "Throws IndexOutOfBoundsException if the cell is outside of the area";
    private static final String NO_PATH = "Throws NoSuchElementException if there is no path";
    private static final int LEAST = Integer.MIN_VALUE;
    private static final int MOST = Integer.MAX_VALUE;

    private final Checks c;

    private PathPromises(Checks checks) {
        c = checks;
    }

    static void run(Sentences s) {
        PathPromises t = new PathPromises(s.checks);
        t.planToPoseSentences(s);
        t.planToCellSentences(s);
        t.planSmoothSentences(s);
        t.planNearSentences(s);
        t.pathSentences(s);
        t.followSentences(s);
        t.backSentences(s);
        t.pathCellsSentences(s);
    }

    private void pathIs(String what, LatticeArm x, int... moves) {
        PlanEdges.pathIs(c, what, x, moves);
        c.element(what + ", no move more", () -> x.pathMove(moves.length));
    }

    private void planToPoseSentences(Sentences s) {
        s.promise(32);
        s.test("Plans the best path to a pose.", () -> {
            LatticeArm x = Arms.arm(1, 0, 2, 1, 2, 0);
            x.planToPose(6);
            pathIs("to the last joint 0 and the first joint 1", x, 1, 1, 2, 2);
            x.follow(9);
            x.planToPose(2);
            pathIs("back", x, 0, 0, 3, 3);
            x.planToPose(6);
            pathIs("to itself", x);
            LatticeArm y = Arms.arm(2, 8, 8);
            y.planToPose(0);
            pathIs("not the nearer pose of the same cell", y, 0, 0, 0, 0, 0, 0, 0, 0);
            LatticeArm z = new LatticeArm();
            z.planToPose(0);
            pathIs("no links", z);
        });
        s.test("pose: the pose number", () -> {
            LatticeArm x = Arms.arm(1, 8, 8);
            c.due("the first one", () -> x.planToPose(0), 8);
            c.due("the last one", () -> x.planToPose(16), 8);
            c.index("before the first one", () -> x.planToPose(-1));
            c.index("behind the last one", () -> x.planToPose(17));
            LatticeArm first = Arms.arm(1, 4, 5, 1, 1, 8, 1, 1, 8, 1, 2, 2);
            c.due("of 5000 the first one", () -> first.planToPose(0), 4 + 1 + 1 + 2);
            LatticeArm last = Arms.arm(1, 4, 5, 1, 8, 1, 1, 8, 1, 1, 2, 2);
            c.due("of 5000 the last one", () -> last.planToPose(4999), 5 + 1 + 1 + 2);
            c.index("one behind 5000", () -> last.planToPose(5000));
        });
        s.test("Returns the number of moves.", () -> {
            LatticeArm x = Arms.arm(1, 4, 4);
            for (int pose = 0; pose < 9; pose++) {
                int p = pose;
                c.due("pose " + pose, () -> x.planToPose(p), Math.abs(p - 4));
            }
        });
        s.test("Throws IndexOutOfBoundsException if there is no such pose", () -> {
            c.refused(INDEX, "no links, pose 1", Arms::empty, x -> x.planToPose(1));
            for (int pose : new int[] {-1, 30, 31, LEAST, MOST}) {
                c.refused(INDEX, "pose " + pose + " of 30", Arms::rich, x -> x.planToPose(pose));
            }
        });
        s.test(TOO_MANY, () -> SpacePromises.tooMany(c, x -> x.planToPose(0)));
        s.test(NO_PATH, () -> {
            c.refused(ELEMENT, "from a pose that is not free", Arms::parted, x -> x.planToPose(0));
            c.refused(ELEMENT, "from it to itself", Arms::parted, x -> x.planToPose(1));
            c.refused(ELEMENT, "to a pose that is not free", PathPromises::partedWithPath, x -> x.planToPose(1));
            c.refused(ELEMENT, "to a pose behind it", PathPromises::partedWithPath, x -> x.planToPose(0));
            c.due("to itself", () -> partedWithPath().planToPose(2), 0);
            LatticeArm x = Arms.arm(1, 8, 8);
            x.addObstacle(-1, 0);
            c.element("no way round from the limit", () -> x.planToPose(2));
        });
    }

    /** At the value 1, with a path of no moves; the value 0 is not free. */
    private static LatticeArm partedWithPath() {
        LatticeArm x = Arms.parted();
        x.setValue(0, 1);
        x.planToPose(2);
        return x;
    }

    private void planToCellSentences(Sentences s) {
        s.promise(33);
        s.test("Plans the best path to the poses with the tip at a cell.", () -> {
            LatticeArm x = Arms.arm(5, 8, 8, 5, 0, 0);
            x.planToCell(10, 10);
            pathIs("the last cell of the area", x, 1);
            x.planToCell(-10, -10);
            pathIs("the first cell of the area", x, 0, 0, 0);
            x.planToCell(-10, 0);
            pathIs("two poses as near", x, 0, 0, 0, 0);
            x.setValue(0, 8);
            x.planToCell(10, 10);
            pathIs("the only pose below the limit", x, 0, 0, 0, 0, 0, 0, 0);
            x.planToCell(10, 0);
            pathIs("here", x);
            LatticeArm y = new LatticeArm();
            y.planToCell(0, 0);
            pathIs("no links", y);
        });
        s.test("Returns the number of moves.", () -> {
            int[] due = {0, 1, 2, 3, 4, 3, 2, 1};
            for (int d = 0; d < 8; d++) {
                int k = d;
                LatticeArm x = Arms.arm(5, 8, 8);
                c.due("direction " + d, () -> x.planToCell(5 * AreaEdges.STEP_X[k], 5 * AreaEdges.STEP_Y[k]), due[k]);
                c.due("direction " + d + ", length", x::pathLength, due[k]);
            }
        });
        s.test(OUTSIDE, () -> LinkPromises.outside(c, (x, a, b) -> x.planToCell(a, b)));
        s.test(TOO_MANY, () -> SpacePromises.tooMany(c, x -> x.planToCell(2, 1)));
        s.test(NO_PATH, () -> noPathToCell((x, a, b) -> x.planToCell(a, b)));
    }

    private void noPathToCell(LinkPromises.CellCall call) {
        c.refused(ELEMENT, "no pose has its tip there", Arms::rich, x -> call.on(x, 0, 0));
        c.refused(ELEMENT, "on the way, but not the tip", () -> Arms.arm(5, 8, 8), x -> call.on(x, 4, 0));
        c.refused(ELEMENT, "an obstacle", Arms::rich, x -> call.on(x, 9, 9));
        c.refused(ELEMENT, "from a pose that is not free", Arms::parted, x -> call.on(x, 2, 2));
        c.refused(ELEMENT, "from it to itself", Arms::parted, x -> call.on(x, 2, 0));
        c.refused(ELEMENT, "to a pose that is not free", PathPromises::partedWithPath, x -> call.on(x, 2, 0));
        c.refused(ELEMENT, "to a pose that is not connected", PathPromises::partedWithPath, x -> call.on(x, 2, -2));
        c.refused(ELEMENT, "no links", Arms::empty, x -> call.on(x, 0, 1));
        c.due("here", () -> call.on(partedWithPath(), 2, 2), 0);
        c.due("no links, here", () -> call.on(new LatticeArm(), 0, 0), 0);
    }

    private void planSmoothSentences(Sentences s) {
        s.promise(34);
        s.test("Plans the smooth path to the poses with the tip at a cell.", () -> {
            LatticeArm x = Arms.arm(2, 0, 2, 1, 0, 2);
            x.addObstacle(0, 3);
            x.planSmooth(-1, 2);
            pathIs("fewer changes than the best path", x, 3, 3, 1, 1);
            LatticeArm y = Arms.arm(5, 8, 8, 5, 0, 0);
            y.planSmooth(10, 10);
            pathIs("the last cell of the area", y, 1);
            y.planSmooth(-10, -10);
            pathIs("the first cell of the area", y, 0, 0, 0);
            y.planSmooth(-10, 0);
            pathIs("two poses as near", y, 0, 0, 0, 0);
            LatticeArm w = Arms.arm(1, 0, 1, 1, 1, 1);
            w.planSmooth(2, -1);
            pathIs("to the first pose of all", w, 2);
            w.setValue(0, 1);
            w.setValue(1, -1);
            w.addObstacle(2, 2);
            w.planSmooth(2, 0);
            pathIs("through the first pose of all", w, 0, 3);
            LatticeArm z = new LatticeArm();
            z.planSmooth(0, 0);
            pathIs("no links", z);
        });
        s.test("Returns the number of changes.", () -> {
            LatticeArm x = Arms.arm(2, 0, 2, 1, 0, 2);
            c.due("no moves", () -> x.planSmooth(3, 0), 0);
            c.due("one move", () -> x.planSmooth(3, 1), 0);
            c.due("two moves the same", () -> x.planSmooth(2, 1), 0);
            c.due("four moves, two and two", () -> x.planSmooth(-1, 2), 1);
            c.due("four moves", x::pathLength, 4);
            x.addObstacle(0, 3);
            x.addObstacle(2, 1);
            c.due("four moves, round both", () -> x.planSmooth(-1, 2), 2);
            c.due("four moves", x::pathLength, 4);
        });
        s.test(OUTSIDE, () -> LinkPromises.outside(c, (x, a, b) -> x.planSmooth(a, b)));
        s.test(TOO_MANY, () -> SpacePromises.tooMany(c, x -> x.planSmooth(2, 1)));
        s.test(NO_PATH, () -> noPathToCell((x, a, b) -> x.planSmooth(a, b)));
    }

    private void planNearSentences(Sentences s) {
        s.promise(35);
        s.test("Plans the best path to the poses in which the tip has the least distance from a cell among all poses that "
                + "are connected with the present one.", () -> {
            LatticeArm x = Arms.arm(5, 8, 8);
            x.planNear(5, 0);
            pathIs("here", x);
            x.planNear(-10, 0);
            pathIs("of three cells as near, the first one that is met", x, 0, 0, 0);
            x.planNear(0, 10);
            pathIs("of three cells as near, the one with the fewest moves", x, 1);
            x.addObstacle(1, 1);
            x.planNear(10, 10);
            pathIs("not a pose that is not free, and several as near", x);
            x.planNear(0, 10);
            pathIs("connected ones alone", x, 0, 0, 0, 0, 0);
            LatticeArm y = new LatticeArm();
            y.planNear(10, -10);
            pathIs("no links", y);
        });
        s.test("Returns this least distance.", () -> {
            LatticeArm x = Arms.arm(5, 8, 8);
            c.due("0", () -> x.planNear(0, -5), 0);
            c.due("1", () -> x.planNear(0, -6), 1);
            c.due("the base", () -> x.planNear(0, 0), 5);
            c.due("a corner", () -> x.planNear(-10, 10), 5);
            c.due("beside", () -> x.planNear(-10, 9), 5);
            c.due("no links", () -> new LatticeArm().planNear(10, -9), 10);
            LatticeArm y = Arms.arm(5, 0, 0, 5, 0, 0);
            c.due("the greatest", () -> y.planNear(-10, 0), 20);
            c.due("in the other coordinate", () -> y.planNear(10, -10), 10);
        });
        s.test(OUTSIDE, () -> LinkPromises.outside(c, (x, a, b) -> x.planNear(a, b)));
        s.test(TOO_MANY, () -> SpacePromises.tooMany(c, x -> x.planNear(0, 0)));
        s.test("Throws NoSuchElementException if the present pose is not free", () -> {
            c.refused(ELEMENT, "an obstacle", Arms::faulty, x -> x.planNear(1, 1));
            c.refused(ELEMENT, "the only pose", Arms::stuck, x -> x.planNear(1, 0));
            c.refused(ELEMENT, "outside", () -> Arms.arm(5, 8, 8, 5, 8, 8, 1, 8, 8), x -> x.planNear(10, 0));
            c.due("a free one", () -> partedWithPath().planNear(2, -2), 4);
        });
    }

    private void pathSentences(Sentences s) {
        s.promise(36);
        s.test("Returns the number of moves of the path.", () -> {
            LatticeArm x = Arms.arm(1, 8, 8);
            x.planToPose(0);
            c.due("eight", x::pathLength, 8);
            x.follow(3);
            c.due("eight, three followed", x::pathLength, 8);
            x.follow(5);
            c.due("eight, all followed", x::pathLength, 8);
            x.planToPose(16);
            c.due("sixteen", x::pathLength, 16);
        });
        s.test("Returns the number of moves.", () -> {
            LatticeArm x = new LatticeArm();
            x.planToPose(0);
            c.due("none", x::pathLength, 0);
        });
        s.test(NO_PATH, () -> noPath(LatticeArm::pathLength));
        s.promise(37);
        s.test("index: the index of the move, from 0", () -> {
            LatticeArm x = Arms.rich();
            int[] due = {0, 0, 0, 3};
            for (int i = 0; i < 4; i++) {
                int k = i;
                c.due("index " + i, () -> x.pathMove(k), due[i]);
            }
            x.follow(9);
            c.due("index 0 at the end", () -> x.pathMove(0), 0);
        });
        s.test("Throws NoSuchElementException if there is no path, or it has no such move", () -> {
            noPath(x -> x.pathMove(0));
            for (int index : new int[] {-1, 4, 5, LEAST, MOST}) {
                c.refused(ELEMENT, "index " + index + " of four", Arms::rich, x -> x.pathMove(index));
            }
            c.refused(ELEMENT, "index 0 of none", PathPromises::partedWithPath, x -> x.pathMove(0));
            LatticeArm x = Arms.arm(1, 8, 8);
            x.planToPose(0);
            x.planToPose(9);
            c.element("a move of the path before", () -> x.pathMove(1));
        });
        s.promise(38);
        s.test("Returns the number of changes of the path.", () -> {
            LatticeArm x = Arms.rich();
            c.due("one", x::pathChanges, 1);
            x.follow(9);
            c.due("one, all followed", x::pathChanges, 1);
            x.planToCell(x.tip(false), x.tip(true));
            c.due("no moves", x::pathChanges, 0);
            x.planToPose(x.poseNumber() - 1);
            c.due("one move", x::pathChanges, 0);
        });
        s.test(NO_PATH, () -> noPath(LatticeArm::pathChanges));
    }

    /** A call that needs a path: on a new object, after a refused plan, and after a change. */
    private void noPath(Checks.Act act) {
        c.refused(ELEMENT, "never planned", Arms::empty, act);
        c.refused(ELEMENT, "after a change", Arms::faulty, act);
        c.refused(ELEMENT, "after a plan that was refused", PathPromises::refusedPlan, act);
        c.refused(ELEMENT, "after undo", PathPromises::undone, act);
        LatticeArm x = Arms.rich();
        c.due("with a path", () -> Checks.answerOf(() -> act.on(x)).endsWith("Exception"), false);
        x.clear();
        c.due("after clear", () -> act.on(x), ELEMENT);
    }

    private static LatticeArm refusedPlan() {
        LatticeArm x = Arms.parted();
        Checks.answerOf(() -> x.planToPose(0));
        return x;
    }

    private static LatticeArm undone() {
        LatticeArm x = Arms.rich();
        x.undo();
        return x;
    }

    private void followSentences(Sentences s) {
        s.promise(39);
        s.test("Follows the path.", () -> {
            LatticeArm x = Arms.rich();
            x.back(2);
            int[][] due = {{1, 0}, {0, 0}, {-1, 0}, {-2, 0}, {-2, 1}};
            for (int i = 0; i <= 4; i++) {
                int k = i;
                c.due("joint 0 after " + i, () -> x.joint(0, 0), due[i][0]);
                c.due("joint 1 after " + i, () -> x.joint(1, 0), due[i][1]);
                c.due("position after " + i, () -> x.back(0), k);
                x.follow(1);
            }
        });
        s.test("moves: the number of moves, not negative; as many as there are left if there are fewer", () -> {
            for (int moves : new int[] {0, 1, 2, 3, 4, 5, MOST}) {
                LatticeArm x = Arms.rich();
                c.due("moves " + moves + " of two", () -> x.follow(moves), Math.max(0, 2 - moves));
                c.due("moves " + moves + " of two, position", () -> x.back(0), Math.min(4, 2 + Math.min(moves, 4)));
                c.argument("moves -1", () -> x.follow(-1));
            }
        });
        s.test("Returns the number of moves that are left then.", () -> {
            LatticeArm x = Arms.arm(1, 8, 8);
            x.planToPose(16);
            for (int left = 7; left >= 0; left--) {
                c.due("left", () -> x.follow(1), left);
            }
            c.due("at the end", () -> x.follow(1), 0);
            c.due("value", () -> x.joint(0, 0), 8);
            x.planToPose(16);
            c.due("of none", () -> x.follow(0), 0);
        });
        s.test("Throws IllegalArgumentException if moves is negative", () -> {
            c.refused(ARGUMENT, "-1", Arms::rich, x -> x.follow(-1));
            c.refused(ARGUMENT, "the least", Arms::rich, x -> x.follow(LEAST));
            c.refused(ARGUMENT, "-1, no path", Arms::empty, x -> x.follow(-1));
            c.due("0", () -> Arms.rich().follow(0), 2);
        });
        s.test(NO_PATH, () -> {
            noPath(x -> x.follow(0));
            noPath(x -> x.follow(MOST));
        });
    }

    private void backSentences(Sentences s) {
        s.promise(40);
        s.test("Follows the path backwards: the latest moves that have been followed are taken back.", () -> {
            LatticeArm x = Arms.rich();
            x.follow(2);
            int[][] due = {{-2, 1}, {-2, 0}, {-1, 0}, {0, 0}, {1, 0}};
            for (int i = 0; i <= 4; i++) {
                int k = i;
                c.due("joint 0 after " + i, () -> x.joint(0, 0), due[i][0]);
                c.due("joint 1 after " + i, () -> x.joint(1, 0), due[i][1]);
                c.due("left after " + i, () -> x.follow(0), k);
                x.back(1);
            }
        });
        s.test("moves: the number of moves, not negative; as many as have been followed if those are fewer", () -> {
            for (int moves : new int[] {0, 1, 2, 3, 4, MOST}) {
                LatticeArm x = Arms.rich();
                c.due("moves " + moves + " of two", () -> x.back(moves), Math.max(0, 2 - moves));
                c.due("moves " + moves + " of two, value", () -> x.joint(0, 0), -1 + Math.min(2, moves));
                c.argument("moves -1", () -> x.back(-1));
            }
        });
        s.test("Returns the position then.", () -> {
            LatticeArm x = Arms.arm(1, 8, 8);
            x.planToPose(16);
            c.due("at the beginning", () -> x.back(1), 0);
            x.follow(8);
            for (int position = 7; position >= 0; position--) {
                c.due("one", () -> x.back(1), position);
            }
            c.due("at the beginning again", () -> x.back(1), 0);
            c.due("value", () -> x.joint(0, 0), 0);
            c.due("the whole path again", () -> x.follow(8), 0);
        });
        s.test("Throws IllegalArgumentException if moves is negative", () -> {
            c.refused(ARGUMENT, "-1", Arms::rich, x -> x.back(-1));
            c.refused(ARGUMENT, "the least", Arms::rich, x -> x.back(LEAST));
            c.refused(ARGUMENT, "-1, no path", Arms::empty, x -> x.back(-1));
            c.due("0", () -> Arms.rich().back(0), 2);
        });
        s.test(NO_PATH, () -> {
            noPath(x -> x.back(0));
            noPath(x -> x.back(MOST));
        });
    }

    private void pathCellsSentences(Sentences s) {
        s.promise(41);
        s.test("Returns the cells that the tip has on the whole path, whatever its position is: how many different ones, "
                + "from its beginning to its end.", () -> {
            LatticeArm none = new LatticeArm();
            none.planToPose(0);
            c.due("no moves", none::pathCells, 1);
            LatticeArm x = Arms.arm(5, 8, 8, 5, 0, 0);
            x.planToCell(10, 10);
            c.due("one move", x::pathCells, 2);
            x.planToPose(1);
            c.due("seven moves", x::pathCells, 8);
            x.planToPose(0);
            c.due("eight moves, the beginning again", x::pathCells, 8);
            for (int position = 0; position < 8; position++) {
                x.follow(1);
                c.due("in the middle", x::pathCells, 8);
            }
            x.planToPose(16);
            c.due("twice round", x::pathCells, 8);
        });
        s.test(NO_PATH, () -> noPath(LatticeArm::pathCells));
    }
}
