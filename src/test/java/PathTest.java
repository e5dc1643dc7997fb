/** Promises 32 to 41: paths. */
public final class PathTest {
    private static final Checks C = new Checks();

    public static void main(String[] args) {
        planToPose();
        planToPoseRefused();
        planToCell();
        planToCellRefused();
        planSmooth();
        planSmoothRefused();
        planNear();
        noPath();
        corner();
        pathStays();
        pathGoes();
        pathMove();
        pathChanges();
        follow();
        back();
        pathCells();
        C.end();
    }

    private static LatticeArm tooMany() {
        return Arms.arm(1, 8, 8, 1, 8, 8, 1, 8, 8, 1, 0, 1);
    }

    private static void movesAre(String what, LatticeArm x, int... moves) {
        C.due(what + " length", x::pathLength, moves.length);
        for (int i = 0; i < moves.length; i++) {
            int k = i;
            C.due(what + " move " + i, () -> x.pathMove(k), moves[i]);
        }
        C.element(what + " end", () -> x.pathMove(moves.length));
    }

    private static void planToPose() {
        LatticeArm none = new LatticeArm();
        C.due("32 no links", () -> none.planToPose(0), 0);
        movesAre("32 no links", none);
        LatticeArm x = Arms.arm(1, 2, 2, 1, 2, 2);
        C.due("32 itself", () -> x.planToPose(12), 0);
        movesAre("32 itself", x);
        C.due("32 corner", () -> x.planToPose(0), 4);
        movesAre("32 corner", x, 0, 0, 2, 2);
        C.due("32 other corner", () -> x.planToPose(24), 4);
        movesAre("32 other corner", x, 1, 1, 3, 3);
        C.due("32 third corner", () -> x.planToPose(20), 4);
        movesAre("32 third corner", x, 1, 1, 2, 2);
        LatticeArm y = Arms.arm(2, 0, 1, 1, 0, 2);
        y.addObstacle(3, 1);
        C.due("32 round an obstacle", () -> y.planToPose(2), 4);
        movesAre("32 round an obstacle", y, 1, 3, 3, 0);
        C.due("32 near", () -> y.planToPose(5), 3);
        movesAre("32 near", y, 1, 3, 3);
    }

    private static void planToPoseRefused() {
        LatticeArm x = Arms.arm(2, 1, 1);
        x.addObstacle(2, 2);
        C.index("32 pose 3", () -> x.planToPose(3));
        C.index("32 pose -1", () -> x.planToPose(-1));
        C.element("32 not free", () -> x.planToPose(2));
        x.addObstacle(2, 0);
        C.element("32 from a pose that is not free", () -> x.planToPose(0));
        C.element("32 to itself, not free", () -> x.planToPose(1));
        x.removeObstacle(2, 2);
        x.setValue(0, 1);
        C.element("32 not connected", () -> x.planToPose(0));
        C.due("32 itself", () -> x.planToPose(2), 0);
        LatticeArm y = tooMany();
        C.state("32 too many", () -> y.planToPose(0));
        C.index("32 no pose first", () -> y.planToPose(17 * 17 * 17 * 2));
    }

    private static void planToCell() {
        LatticeArm none = new LatticeArm();
        C.due("33 no links", () -> none.planToCell(0, 0), 0);
        LatticeArm x = Arms.arm(3, 8, 8);
        C.due("33 here", () -> x.planToCell(3, 0), 0);
        C.due("33 either way", () -> x.planToCell(-3, 0), 4);
        movesAre("33 either way", x, 0, 0, 0, 0);
        C.due("33 up", () -> x.planToCell(-3, 3), 3);
        movesAre("33 up", x, 1, 1, 1);
        x.addObstacle(1, -1);
        C.due("33 round", () -> x.planToCell(0, -3), 6);
        movesAre("33 round", x, 1, 1, 1, 1, 1, 1);
        LatticeArm y = Arms.arm(2, 8, 8, 1, 8, 8);
        C.due("33 two ways", () -> y.planToCell(2, 1), 2);
        movesAre("33 two ways", y, 3, 3);
        C.due("33 straight", () -> y.planToCell(0, 3), 2);
        movesAre("33 straight", y, 1, 1);
        C.due("33 four moves", () -> y.planToCell(-1, 2), 4);
        movesAre("33 four moves", y, 1, 1, 3, 3);
    }

    private static void planToCellRefused() {
        LatticeArm x = Arms.arm(3, 2, 2);
        C.index("33 x", () -> x.planToCell(11, 0));
        C.index("33 y", () -> x.planToCell(0, -11));
        C.element("33 no pose", () -> x.planToCell(1, 0));
        C.element("33 base", () -> x.planToCell(0, 0));
        C.element("33 beyond the limits", () -> x.planToCell(-3, 0));
        x.addObstacle(1, 1);
        C.element("33 behind an obstacle", () -> x.planToCell(0, 3));
        x.setValue(0, 1);
        C.element("33 not free", () -> x.planToCell(3, 3));
        C.element("33 from a pose that is not free", () -> x.planToCell(0, 3));
        LatticeArm y = tooMany();
        C.state("33 too many", () -> y.planToCell(1, 0));
        C.index("33 outside first", () -> y.planToCell(0, 11));
    }

    private static void planSmooth() {
        LatticeArm none = new LatticeArm();
        C.due("34 no links", () -> none.planSmooth(0, 0), 0);
        LatticeArm x = Arms.arm(2, 8, 8, 1, 8, 8);
        C.due("34 here", () -> x.planSmooth(3, 0), 0);
        movesAre("34 here", x);
        C.due("34 one kind", () -> x.planSmooth(0, 3), 0);
        movesAre("34 one kind", x, 1, 1);
        C.due("34 two kinds", () -> x.planSmooth(-1, 2), 1);
        movesAre("34 two kinds", x, 1, 1, 3, 3);
        LatticeArm y = Arms.arm(1, 0, 1, 1, 1, 1);
        C.due("34 to the first pose", () -> y.planSmooth(2, -1), 0);
        movesAre("34 to the first pose", y, 2);
        LatticeArm z = Arms.arm(1, 2, 2, 2, 2, 2);
        C.due("34 two orders", () -> z.planSmooth(-2, -1), 1);
        movesAre("34 two orders", z, 0, 0, 2, 2);
        smoothBeatsBest();
    }

    /** Two joints from 0 to 2; the pose of the values 2 and 0 is blocked, so the moves 1 1 3 3 are not possible. */
    private static void smoothBeatsBest() {
        LatticeArm x = Arms.arm(2, 0, 2, 1, 0, 2);
        x.addObstacle(0, 3);
        C.due("34 best length", () -> x.planToPose(8), 4);
        movesAre("34 best", x, 1, 3, 1, 3);
        C.due("34 best changes", x::pathChanges, 3);
        C.due("34 smooth", () -> x.planSmooth(-1, 2), 1);
        movesAre("34 smooth", x, 3, 3, 1, 1);
        C.due("34 smooth changes", x::pathChanges, 1);
        LatticeArm y = Arms.arm(2, 0, 2, 1, 0, 2);
        y.addObstacle(0, 3);
        y.addObstacle(2, 1);
        C.due("34 both turns", () -> y.planSmooth(-1, 2), 2);
        movesAre("34 both turns", y, 1, 3, 3, 1);
    }

    private static void planSmoothRefused() {
        LatticeArm x = Arms.arm(3, 2, 2);
        C.index("34 x", () -> x.planSmooth(-11, 0));
        C.index("34 y", () -> x.planSmooth(0, 11));
        C.element("34 no pose", () -> x.planSmooth(1, 0));
        x.addObstacle(1, 0);
        C.element("34 from a pose that is not free", () -> x.planSmooth(3, 3));
        C.element("34 to itself, not free", () -> x.planSmooth(3, 0));
        x.setValue(0, 1);
        C.element("34 not connected", () -> x.planSmooth(3, -3));
        LatticeArm y = tooMany();
        C.state("34 too many", () -> y.planSmooth(1, 0));
        C.index("34 outside first", () -> y.planSmooth(11, 0));
    }

    private static void planNear() {
        LatticeArm none = new LatticeArm();
        C.due("35 no links", () -> none.planNear(-7, 10), 10);
        movesAre("35 no links", none);
        LatticeArm x = Arms.arm(3, 8, 8);
        C.due("35 here", () -> x.planNear(10, 0), 7);
        movesAre("35 here", x);
        C.due("35 exactly", () -> x.planNear(-3, 0), 0);
        movesAre("35 exactly", x, 0, 0, 0, 0);
        C.due("35 several", () -> x.planNear(-10, 0), 7);
        movesAre("35 several", x, 0, 0, 0);
        C.due("35 base", () -> x.planNear(0, 0), 3);
        movesAre("35 base", x);
        x.addObstacle(-1, -1);
        C.due("35 the other way", () -> x.planNear(-10, -1), 7);
        movesAre("35 the other way", x, 1, 1, 1);
        x.addObstacle(0, 1);
        C.due("35 connected ones alone", () -> x.planNear(-10, -1), 10);
        movesAre("35 connected ones alone", x, 0, 0);
        x.addObstacle(2, 0);
        C.element("35 not free", () -> x.planNear(0, 0));
        C.index("35 x", () -> x.planNear(11, 0));
        C.index("35 y", () -> x.planNear(0, -11));
        LatticeArm y = tooMany();
        C.state("35 too many", () -> y.planNear(1, 0));
        C.index("35 outside first", () -> y.planNear(0, 11));
        y.setValue(1, 4);
        C.state("35 too many first", () -> y.planNear(1, 0));
    }

    private static void noPath() {
        LatticeArm x = Arms.arm(1, 1, 1);
        C.element("36 none", x::pathLength);
        C.element("37 none", () -> x.pathMove(0));
        C.element("38 none", x::pathChanges);
        C.element("39 none", () -> x.follow(0));
        C.element("40 none", () -> x.back(0));
        C.element("41 none", x::pathCells);
        C.argument("39 negative first", () -> x.follow(-1));
        C.argument("40 negative first", () -> x.back(-1));
    }

    /** In the first cell of the area, at its corner. */
    private static void corner() {
        LatticeArm x = Arms.arm(5, 8, 8, 5, 1, 1);
        x.setValue(0, -3);
        C.due("27 straight and bent", x::reachableCells, 16);
        C.due("33 here", () -> x.planToCell(-10, -10), 0);
        C.due("41 one", x::pathCells, 1);
        x.setValue(0, 0);
        C.due("33 there", () -> x.planToCell(-10, -10), 3);
        C.due("41 four", x::pathCells, 4);
        C.due("34 there", () -> x.planSmooth(-10, -10), 0);
        C.due("35 there", () -> x.planNear(-10, -10), 0);
        C.due("25 there", () -> x.posesAt(-10, -10), 2);
        x.setLimits(0, 3, 3);
        C.due("26 all", x::connected, 21);
        C.due("22 all", x::freePoses, 21);
        C.due("27 all", x::reachableCells, 15);
        x.setLimits(1, 0, 0);
        C.due("26 straight ones", x::connected, 7);
        C.due("27 straight ones", x::reachableCells, 7);
        C.due("28 x", () -> x.favorite(false), -10);
        C.due("28 y", () -> x.favorite(true), -10);
        C.due("30 one", x::groups, 1);
        C.due("29 farthest", x::farthest, 3);
    }

    /** A path stays at calls that fail or that are no change. */
    private static void pathStays() {
        LatticeArm x = Arms.arm(2, 4, 4);
        x.planToPose(8);
        x.follow(1);
        x.addObstacle(5, 5);
        x.planToPose(8);
        x.follow(1);
        C.element("36 failing plan", () -> x.planToCell(0, 0));
        C.element("36 failing smooth plan", () -> x.planSmooth(0, 0));
        C.index("36 failing plan", () -> x.planToPose(9));
        C.index("36 failing plan", () -> x.planNear(11, 9));
        C.due("36 failing plan", () -> x.planToName('z'), "UnsupportedOperationException");
        C.argument("36 failing change", () -> x.addLink(0, 0, 0));
        C.index("36 failing change", () -> x.setLimits(1, 0, 0));
        C.argument("36 failing change", () -> x.setValue(0, 5));
        C.argument("36 failing change", () -> x.move(2));
        C.state("36 failing change", () -> x.addObstacle(5, 5));
        C.element("36 failing change", () -> x.removeObstacle(5, 4));
        C.argument("36 failing change", x::read);
        C.state("36 failing restore", x::restore);
        x.save();
        x.bookmark('a');
        x.append('O');
        x.connected();
        x.groups();
        x.farthest();
        x.freedom();
        C.due("36 stays", x::pathLength, 3);
        C.due("39 position stays", () -> x.follow(0), 2);
        C.due("39 end", () -> x.follow(9), 0);
        C.due("39 value", () -> x.joint(0, 0), 4);
    }

    private static void pathGoes() {
        LatticeArm x = Arms.arm(2, 4, 4);
        Runnable[] calls = {x::clear, () -> x.addLink(1, 0, 0), x::removeLink, () -> x.addLink(1, 1, 1),
            () -> x.setLimits(0, 1, 1), () -> x.addObstacle(-5, -5), () -> x.removeObstacle(-5, -5),
            () -> x.setValue(0, 0), () -> x.move(1), x::undo, x::save, x::restore,
            () -> {
                for (char c : "O9,9;".toCharArray()) {
                    x.append(c);
                }
                x.read();
            }};
        for (int i = 0; i < calls.length; i++) {
            x.planToPose(x.poseNumber());
            C.due("36 before call " + i, x::pathLength, 0);
            calls[i].run();
            if (i == 10) {
                C.due("36 after saving", x::pathLength, 0);
            } else {
                C.element("36 after call " + i, x::pathLength);
            }
        }
        x.clear();
        x.addLink(1, 2, 2);
        x.planToPose(0);
        x.follow(1);
        x.setValue(0, 1);
        C.element("36 gone", x::pathLength);
        C.element("37 gone", () -> x.pathMove(0));
        C.element("38 gone", x::pathChanges);
        C.element("39 gone", () -> x.follow(1));
        C.element("40 gone", () -> x.back(1));
        C.element("41 gone", x::pathCells);
    }

    private static void pathMove() {
        LatticeArm x = Arms.arm(2, 4, 4);
        x.planToPose(8);
        C.element("37 index -1", () -> x.pathMove(-1));
        C.element("37 index 4", () -> x.pathMove(4));
        C.element("37 far", () -> x.pathMove(Integer.MAX_VALUE));
        C.element("37 far", () -> x.pathMove(Integer.MIN_VALUE));
        C.due("37 first", () -> x.pathMove(0), 1);
        x.follow(4);
        C.due("37 first, followed", () -> x.pathMove(0), 1);
        C.due("37 last", () -> x.pathMove(3), 1);
        x.planToPose(0);
        C.due("36 eight", x::pathLength, 8);
        C.due("37 last of eight", () -> x.pathMove(7), 0);
        x.planToPose(7);
        C.element("37 shorter path", () -> x.pathMove(1));
    }

    private static void pathChanges() {
        LatticeArm x = Arms.arm(2, 2, 2, 1, 2, 2, 1, 2, 2);
        x.planToPose(62);
        C.due("38 none", x::pathChanges, 0);
        x.planToPose(63);
        C.due("38 one move", x::pathChanges, 0);
        x.planToPose(64);
        C.due("38 two the same", x::pathChanges, 0);
        x.planToPose(68);
        C.due("38 two", x::pathChanges, 1);
        x.planToPose(68 + 25);
        C.due("38 three", x::pathChanges, 2);
        x.follow(2);
        C.due("38 followed", x::pathChanges, 2);
    }

    private static void follow() {
        LatticeArm x = Arms.arm(2, 4, 4, 1, 2, 2);
        x.planToPose(8 * 5 + 4);
        C.argument("39 negative", () -> x.follow(-1));
        C.argument("39 negative", () -> x.follow(Integer.MIN_VALUE));
        C.due("39 none", () -> x.follow(0), 6);
        C.due("39 value", () -> x.joint(0, 0), 0);
        C.due("39 three", () -> x.follow(3), 3);
        C.due("39 value", () -> x.joint(0, 0), 3);
        C.due("39 two", () -> x.follow(2), 1);
        C.due("39 value", () -> x.joint(1, 0), 1);
        C.due("39 more", () -> x.follow(Integer.MAX_VALUE), 0);
        C.due("39 value", () -> x.joint(1, 0), 2);
        C.due("39 at the end", () -> x.follow(1), 0);
        C.due("39 pose", x::poseNumber, 44);
        x.planToPose(43);
        C.due("39 the new path", () -> x.follow(1), 0);
        C.due("39 is no change", x::undo, 1);
        C.due("39 before the last change", () -> x.count(0), 1);
        C.due("39 value there", () -> x.joint(0, 0), 0);
    }

    private static void back() {
        LatticeArm x = Arms.arm(2, 4, 4, 1, 2, 2);
        x.planToPose(8 * 5 + 4);
        C.argument("40 negative", () -> x.back(-1));
        C.due("40 at the beginning", () -> x.back(5), 0);
        x.follow(6);
        C.due("40 none", () -> x.back(0), 6);
        C.due("40 three", () -> x.back(3), 3);
        C.due("40 value 0", () -> x.joint(0, 0), 3);
        C.due("40 value 1", () -> x.joint(1, 0), 0);
        C.due("40 forward", () -> x.follow(1), 2);
        C.due("40 more", () -> x.back(Integer.MAX_VALUE), 0);
        C.due("40 pose", x::poseNumber, 4 * 5 + 2);
        C.due("40 still there", x::pathLength, 6);
        x.follow(1);
        C.due("40 one", () -> x.back(1), 0);
        C.due("40 is no change", x::undo, 1);
    }

    private static void pathCells() {
        LatticeArm none = new LatticeArm();
        none.planToPose(0);
        C.due("41 no links", none::pathCells, 1);
        LatticeArm x = Arms.arm(2, 8, 8);
        x.planToPose(8);
        C.due("41 one", x::pathCells, 1);
        x.planToPose(10);
        C.due("41 three", x::pathCells, 3);
        x.planToPose(15);
        C.due("41 eight", x::pathCells, 8);
        x.planToPose(16);
        C.due("41 once round", x::pathCells, 8);
        x.follow(5);
        C.due("41 in the middle", x::pathCells, 8);
        x.follow(5);
        C.due("41 at the end", x::pathCells, 8);
        x.planToPose(0);
        C.due("41 twice round", x::pathCells, 8);
        x.planToPose(14);
        C.due("41 from the end", x::pathCells, 3);
    }
}
