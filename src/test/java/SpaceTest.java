/** Promises 22 to 31: all poses. */
public final class SpaceTest {
    private static final Checks C = new Checks();

    public static void main(String[] args) {
        tooMany();
        justEnough();
        freePoses();
        poseValue();
        isFreePose();
        posesAt();
        connected();
        reachableCells();
        favorite();
        farthest();
        groups();
        freedom();
        presentDoesNotMatter();
        C.end();
    }

    private static void tooMany() {
        // 17 * 17 * 6 * 3 poses
        LatticeArm x = Arms.arm(1, 8, 8, 1, 8, 8, 1, 5, 0, 1, 1, 1);
        C.due("22 poses", () -> x.count(2), 5202);
        C.state("22 too many", x::freePoses);
        C.state("25 too many", () -> x.posesAt(0, 0));
        C.index("25 outside first", () -> x.posesAt(0, 11));
        C.state("26 too many", x::connected);
        C.state("27 too many", x::reachableCells);
        C.state("28 too many", () -> x.favorite(true));
        C.state("29 too many", x::farthest);
        C.state("30 too many", x::groups);
        C.state("31 too many", x::freedom);
        x.setValue(1, 4);
        C.due("26 not free", x::fault, 3);
        C.state("26 too many, not free", x::connected);
        C.state("27 too many, not free", x::reachableCells);
        C.state("28 too many, not free", () -> x.favorite(false));
        C.state("29 too many, not free", x::farthest);
        C.due("23 last", () -> x.poseValue(5201, 2), 0);
        C.due("23 last", () -> x.poseValue(5201, 3), 1);
        C.due("24 last", () -> x.isFreePose(5201), true);
        C.index("24 behind the last", () -> x.isFreePose(5202));
        x.setLimits(1, 4, 4);
        C.due("22 fewer", () -> x.freePoses() > 0, true);
    }

    private static void justEnough() {
        // 10 * 10 * 10 * 5 poses, as many as there may be
        int[] most = {1, 5, 4, 1, 4, 5, 1, 8, 1, 1, 2, 2};
        LatticeArm x = Arms.arm(most);
        C.due("22 poses", () -> x.count(2), 5000);
        C.due("22 free", x::freePoses, freeOnes(5000, most));
        C.due("26 all groups", () -> x.groups() >= 1 && x.connected() <= x.freePoses(), true);
        C.due("32 plan", () -> x.planToPose(x.poseNumber()), 0);
        int[] wide = {5, 8, 8, 5, 8, 8, 5, 8, 8};
        LatticeArm y = Arms.arm(wide);
        C.due("22 poses", () -> y.count(2), 4913);
        C.due("22 free", y::freePoses, freeOnes(4913, wide));
    }

    /** Asks one pose after the other; a new arm now and then, as no object is good for more than 512 calls. */
    private static int freeOnes(int poses, int... numbers) {
        int free = 0;
        LatticeArm x = Arms.arm(numbers);
        for (int pose = 0; pose < poses; pose++) {
            free += x.isFreePose(pose) ? 1 : 0;
            if (pose % 500 == 499) {
                x = Arms.arm(numbers);
            }
        }
        return free;
    }

    private static void freePoses() {
        C.due("22 no links", new LatticeArm()::freePoses, 1);
        C.due("22 all", Arms.arm(3, 8, 8)::freePoses, 17);
        LatticeArm x = Arms.arm(3, 8, 8);
        x.addObstacle(2, 2);
        C.due("22 direction 1 twice", x::freePoses, 15);
        x.addObstacle(-1, 0);
        C.due("22 direction 4 twice", x::freePoses, 13);
        x.addObstacle(3, 0);
        C.due("22 direction 0 thrice", x::freePoses, 10);
        x.addLink(1, 8, 8);
        C.due("22 back on itself", x::freePoses, 150);
        C.due("22 none", Arms.parted()::freePoses, 2);
        LatticeArm none = Arms.arm(1, 0, 0);
        none.addObstacle(1, 0);
        C.due("22 none", none::freePoses, 0);
        none.removeObstacle(1, 0);
        C.due("22 one again", none::freePoses, 1);
    }

    private static void poseValue() {
        LatticeArm x = new LatticeArm();
        C.index("23 no joint", () -> x.poseValue(0, 0));
        LatticeArm y = Arms.arm(1, 1, 2, 1, 3, 0);
        int number = 0;
        for (int a = -1; a <= 2; a++) {
            for (int b = -3; b <= 0; b++) {
                int n = number;
                C.due("23 joint 0", () -> y.poseValue(n, 0), a);
                C.due("23 joint 1", () -> y.poseValue(n, 1), b);
                number++;
            }
        }
        C.index("23 pose 16", () -> y.poseValue(16, 0));
        C.index("23 pose -1", () -> y.poseValue(-1, 0));
        C.index("23 joint 2", () -> y.poseValue(0, 2));
        C.index("23 joint -1", () -> y.poseValue(0, -1));
        C.index("23 far", () -> y.poseValue(Integer.MAX_VALUE, Integer.MIN_VALUE));
        C.due("23 the present one stays", y::poseNumber, 7);
    }

    private static void isFreePose() {
        LatticeArm x = new LatticeArm();
        C.due("24 no links", () -> x.isFreePose(0), true);
        C.index("24 pose 1", () -> x.isFreePose(1));
        C.index("24 pose -1", () -> x.isFreePose(-1));
        LatticeArm y = Arms.parted();
        C.due("24 first", () -> y.isFreePose(0), true);
        C.due("24 middle", () -> y.isFreePose(1), false);
        C.due("24 last", () -> y.isFreePose(2), true);
        C.index("24 behind the last", () -> y.isFreePose(3));
        LatticeArm z = Arms.arm(5, 0, 0, 5, 0, 4, 1, 0, 0);
        boolean[] free = {false, false, true, true, false};
        for (int k = 0; k < 5; k++) {
            int pose = k;
            C.due("24 pose " + k, () -> z.isFreePose(pose), free[k]);
        }
        C.due("24 the present one stays", z::poseNumber, 0);
    }

    private static void posesAt() {
        LatticeArm x = Arms.arm(2, 8, 8, 1, 8, 8);
        C.index("25 x", () -> x.posesAt(11, 0));
        C.index("25 x low", () -> x.posesAt(-11, 0));
        C.index("25 y", () -> x.posesAt(0, -11));
        // direction 0 has the values -8, 0 and 8, each other one two.
        C.due("25 straight", () -> x.posesAt(3, 0), 9);
        C.due("25 straight up", () -> x.posesAt(0, 3), 6);
        C.due("25 two ways", () -> x.posesAt(2, 1), 10);
        C.due("25 back on itself", () -> x.posesAt(1, 0), 0);
        C.due("25 base", () -> x.posesAt(0, 0), 0);
        x.addObstacle(1, 0);
        C.due("25 blocked", () -> x.posesAt(3, 0), 0);
        C.due("25 obstacle", () -> x.posesAt(1, 0), 0);
        x.addObstacle(0, 3);
        C.due("25 a tip on an obstacle", () -> x.posesAt(0, 3), 0);
        C.due("25 border", () -> Arms.arm(5, 0, 0, 5, 0, 0).posesAt(10, 0), 1);
    }

    private static void connected() {
        C.due("26 no links", new LatticeArm()::connected, 1);
        LatticeArm x = Arms.parted();
        C.due("26 not free", x::connected, 0);
        x.setValue(0, 1);
        C.due("26 alone", x::connected, 1);
        x.setLimits(0, 1, 5);
        C.due("26 one side", x::connected, 5);
        x.setValue(0, -1);
        C.due("26 other side", x::connected, 1);
        x.setLimits(0, 8, 5);
        C.due("26 from -7 on", x::connected, 7);
        LatticeArm y = Arms.arm(2, 4, 4, 1, 8, 8);
        C.due("26 straight to sharp", y::connected, 9 * 7);
        y.setValue(1, 5);
        C.due("26 behind the fold", y::connected, 9 * 4);
        x.removeObstacle(2, 0);
        C.due("26 all", x::connected, 14);
    }

    private static void reachableCells() {
        C.due("27 no links", new LatticeArm()::reachableCells, 1);
        LatticeArm x = Arms.arm(3, 8, 8);
        C.due("27 eight", x::reachableCells, 8);
        x.addObstacle(3, 3);
        C.due("27 seven", x::reachableCells, 7);
        x.addObstacle(0, -1);
        x.setLimits(0, 8, 6);
        C.due("27 two", x::reachableCells, 2);
        x.setValue(0, 2);
        C.due("27 four", x::reachableCells, 4);
        x.setValue(0, 1);
        C.due("27 not free", x::reachableCells, 0);
    }

    private static void favoriteIs(String what, LatticeArm x, int cellX, int cellY) {
        C.due(what + " x", () -> x.favorite(false), cellX);
        C.due(what + " y", () -> x.favorite(true), cellY);
    }

    private static void favorite() {
        favoriteIs("28 no links", new LatticeArm(), 0, 0);
        LatticeArm x = Arms.arm(2, 8, 8);
        favoriteIs("28 thrice", x, 2, 0);
        x.setLimits(0, 8, 7);
        favoriteIs("28 least x, then least y", x, -2, -2);
        x.setLimits(0, 2, 2);
        favoriteIs("28 least y", x, 0, -2);
        x.setLimits(0, 0, 2);
        favoriteIs("28 least x", x, 0, 2);
        x.setLimits(0, 2, 8);
        x.setValue(0, 6);
        favoriteIs("28 first of twice", x, 0, -2);
        x.setValue(0, 2);
        x.addObstacle(1, -1);
        favoriteIs("28 connected ones alone", x, -2, -2);
        x.setValue(0, 7);
        C.element("28 not free", () -> x.favorite(false));
        LatticeArm y = Arms.arm(5, 0, 0, 5, 0, 0, 1, 0, 8);
        y.setValue(2, 2);
        favoriteIs("28 border", y, 9, 1);
    }

    private static void farthest() {
        C.due("29 no links", new LatticeArm()::farthest, 0);
        LatticeArm x = Arms.arm(1, 3, 5);
        C.due("29 up", x::farthest, 5);
        x.setValue(0, 5);
        C.due("29 down", x::farthest, 8);
        x.setLimits(0, 0, 5);
        x.setValue(0, 2);
        C.due("29 from the middle", x::farthest, 3);
        x.addLink(1, 1, 2);
        C.due("29 two joints", x::farthest, 5);
        LatticeArm y = Arms.parted();
        C.element("29 not free", y::farthest);
        y.setValue(0, 1);
        C.due("29 alone", y::farthest, 0);
        LatticeArm z = detour();
        C.due("29 round an obstacle", z::farthest, 4);
    }

    /** Two joints with the values 0 to 1 and 0 to 2, of which 0 and 1 together are not free. */
    private static LatticeArm detour() {
        LatticeArm x = Arms.arm(2, 0, 1, 1, 0, 2);
        x.addObstacle(3, 1);
        return x;
    }

    private static void groups() {
        C.due("30 no links", new LatticeArm()::groups, 1);
        C.due("30 one", Arms.arm(1, 8, 8)::groups, 1);
        LatticeArm x = Arms.parted();
        C.due("30 two", x::groups, 2);
        x.setLimits(0, 8, 8);
        C.due("30 both turns", x::groups, 2);
        x.addObstacle(-1, 0);
        C.due("30 more", x::groups, 4);
        x.addObstacle(-2, 2);
        C.due("30 single ones", x::groups, 4);
        x.addObstacle(-2, -2);
        C.due("30 single ones", x::groups, 4);
        x.addObstacle(0, 1);
        C.due("30 single ones", x::groups, 4);
        LatticeArm none = Arms.arm(1, 0, 0);
        none.addObstacle(1, 0);
        C.due("30 none", none::groups, 0);
        C.due("30 folds part", Arms.arm(2, 0, 0, 1, 8, 8)::groups, 3);
    }

    private static void freedom() {
        C.due("31 no links", new LatticeArm()::freedom, 0.0);
        C.due("31 a row of 17", Arms.arm(1, 8, 8)::freedom, 32.0 / 17.0);
        C.due("31 none possible", Arms.parted()::freedom, 0.0);
        LatticeArm none = Arms.arm(1, 0, 0);
        none.addObstacle(1, 0);
        C.due("31 none free", none::freedom, "ArithmeticException");
        C.due("31 a grid", Arms.arm(1, 0, 2, 1, 1, 1)::freedom, 24.0 / 9.0);
        C.due("31 a detour", detour()::freedom, 8.0 / 5.0);
        LatticeArm x = Arms.parted();
        x.setLimits(0, 1, 3);
        C.due("31 a single one and a row", x::freedom, 4.0 / 4.0);
    }

    private static void presentDoesNotMatter() {
        LatticeArm x = Arms.parted();
        C.due("22 present not free", x::freePoses, 2);
        C.due("25 present not free", () -> x.posesAt(2, 2), 1);
        C.due("30 present not free", x::groups, 2);
        C.due("31 present not free", x::freedom, 0.0);
    }
}
