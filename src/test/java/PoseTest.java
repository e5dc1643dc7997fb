/** Promises 12 to 21: the present pose. */
public final class PoseTest {
    private static final Checks C = new Checks();

    public static void main(String[] args) {
        setValue();
        move();
        moves();
        tip();
        outside();
        obstacles();
        overlaps();
        orderOfFaults();
        linksAt();
        poseNumber();
        clearance();
        winding();
        C.end();
    }

    private static LatticeArm arm(int... lengths) {
        LatticeArm x = new LatticeArm();
        for (int length : lengths) {
            x.addLink(length, 8, 8);
        }
        return x;
    }

    private static void setValue() {
        LatticeArm x = new LatticeArm();
        C.index("12 no joint", () -> x.setValue(0, 0));
        C.index("12 no joint first", () -> x.setValue(0, 9));
        x.addLink(5, 1, 2);
        x.addLink(5, 4, 4);
        x.addLink(5, 0, 0);
        C.index("12 joint 3", () -> x.setValue(3, 0));
        C.index("12 joint -1", () -> x.setValue(-1, 0));
        C.argument("12 below", () -> x.setValue(0, -2));
        C.argument("12 above", () -> x.setValue(0, 3));
        C.argument("12 far", () -> x.setValue(0, Integer.MIN_VALUE));
        C.due("12 first", () -> x.setValue(0, -1), 0);
        C.due("12 second", () -> x.setValue(0, 2), -1);
        C.due("12 the same", () -> x.setValue(0, 2), 2);
        C.due("12 undo the same", x::undo, 5);
        C.due("12 value", () -> x.joint(0, 0), 2);
        C.due("12 undo", x::undo, 4);
        C.due("12 value before", () -> x.joint(0, 0), -1);
        C.due("12 not free", x::fault, 1);
        x.setValue(1, 4);
        C.due("12 still not free", x::fault, 3);
        LatticeArm y = arm(2);
        y.planToPose(9);
        y.setValue(0, 0);
        C.element("12 no path then", y::pathLength);
    }

    private static void move() {
        LatticeArm x = new LatticeArm();
        C.argument("13 no links", () -> x.move(0));
        x.addLink(5, 1, 1);
        x.addLink(5, 1, 4);
        C.argument("13 move 4", () -> x.move(4));
        C.argument("13 move -1", () -> x.move(-1));
        C.argument("13 move -2", () -> x.move(-2));
        C.argument("13 far", () -> x.move(Integer.MAX_VALUE));
        C.due("13 up", () -> x.move(1), 1);
        C.state("13 above the limit", () -> x.move(1));
        C.due("13 down", () -> x.move(0), 0);
        C.due("13 down again", () -> x.move(0), -1);
        C.state("13 below the limit", () -> x.move(0));
        C.due("13 joint 1 down", () -> x.move(2), -1);
        C.due("13 joint 1 up", () -> x.move(3), 0);
        x.move(3);
        x.move(3);
        x.move(3);
        C.due("13 value is 3", () -> x.joint(1, 0), 3);
        C.state("13 into an overlap", () -> x.move(3));
        C.due("13 value is still 3", () -> x.joint(1, 0), 3);
        x.setValue(1, 4);
        C.state("13 not free now", () -> x.move(2));
        C.argument("13 no joint first", () -> x.move(4));
        x.setValue(1, 0);
        x.addObstacle(5, 5);
        C.due("13 joint 0 is at -1", () -> x.move(1), 0);
        C.state("13 into an obstacle", () -> x.move(1));
        x.removeObstacle(5, 5);
        x.addLink(1, 0, 0);
        x.setValue(1, 2);
        C.due("13 is free", x::fault, 0);
        C.state("13 out of the area", () -> x.move(2));
        C.due("13 up is free", () -> x.move(3), 3);
        x.planToPose(x.poseNumber());
        x.move(2);
        C.element("13 no path then", x::pathLength);
        x.undo();
        C.due("13 undone", () -> x.joint(1, 0), 3);
    }

    private static void moves() {
        LatticeArm x = new LatticeArm();
        C.due("14 no links", x::moves, 0);
        x.addLink(5, 1, 1);
        C.due("14 both", x::moves, 3);
        x.addLink(5, 0, 1);
        C.due("14 three", x::moves, 11);
        x.addObstacle(10, 5);
        C.due("14 obstacle", x::moves, 3);
        x.setValue(1, 1);
        C.due("14 not free", x::moves, 0);
        x.setValue(1, 0);
        x.setValue(0, 1);
        C.due("14 at the limit", x::moves, 9);
        x.addLink(1, 0, 0);
        C.due("14 outside", x::moves, 0);
        LatticeArm y = arm(1, 1, 1, 1);
        C.due("14 all", y::moves, 255);
    }

    private static void tip() {
        LatticeArm x = arm(3, 2);
        int[] dx = {1, 1, 0, -1, -1, -1, 0, 1};
        int[] dy = {0, 1, 1, 1, 0, -1, -1, -1};
        for (int a = -8; a <= 8; a++) {
            for (int b = -8; b <= 8; b += 3) {
                x.setValue(0, a);
                x.setValue(1, b);
                int first = (a + 16) % 8;
                int second = (a + b + 16) % 8;
                C.due("15 x " + a + " " + b, () -> x.tip(false), 3 * dx[first] + 2 * dx[second]);
                C.due("15 y " + a + " " + b, () -> x.tip(true), 3 * dy[first] + 2 * dy[second]);
            }
        }
        LatticeArm y = arm(5, 5, 5, 5);
        C.due("15 outside", () -> y.tip(false), 20);
        y.setValue(0, 5);
        C.due("15 outside x", () -> y.tip(false), -20);
        C.due("15 outside y", () -> y.tip(true), -20);
    }

    private static void faultIs(String what, LatticeArm x, int fault, int link) {
        C.due(what + " fault", x::fault, fault);
        if (fault == 0) {
            C.element(what + " link", x::faultyLink);
        } else {
            C.due(what + " link", x::faultyLink, link);
        }
    }

    private static void outside() {
        faultIs("16 no links", new LatticeArm(), 0, 0);
        LatticeArm x = arm(5, 5);
        faultIs("16 at the border", x, 0, 0);
        x.addLink(1, 8, 8);
        faultIs("16 one beyond", x, 1, 2);
        x.addLink(1, 8, 8);
        faultIs("16 both beyond", x, 1, 2);
        x.setValue(2, 2);
        faultIs("16 along the border", x, 0, 0);
        x.setValue(3, -3);
        faultIs("16 the last beyond", x, 1, 3);
        LatticeArm y = arm(5, 5, 1, 1);
        for (int k = 0; k < 4; k++) {
            y.setValue(0, 2 * k);
            faultIs("16 each side " + k, y, 1, 2);
        }
        y.setValue(3, 4);
        faultIs("16 out and back", y, 1, 2);
        LatticeArm z = arm(5, 5, 5);
        C.due("17 asked first", z::faultyLink, 2);
        z.setValue(0, 1);
        z.setValue(1, 1);
        z.setValue(2, 2);
        z.addObstacle(4, 4);
        C.due("17 asked first, obstacle", z::faultyLink, 0);
        z.setValue(1, 4);
        z.removeObstacle(4, 4);
        C.due("17 asked first, overlap", z::faultyLink, 1);
        z.setValue(1, 2);
        z.setValue(2, 2);
        C.element("17 asked first, free", z::faultyLink);
    }

    private static void obstacles() {
        LatticeArm x = arm(3, 3, 3);
        x.addObstacle(6, 0);
        faultIs("16 where two meet", x, 2, 1);
        x.setValue(2, 2);
        faultIs("16 where two meet, bent", x, 2, 1);
        x.removeObstacle(6, 0);
        faultIs("16 free", x, 0, 0);
        x.addObstacle(6, 3);
        faultIs("16 the tip", x, 2, 2);
        x.addObstacle(1, 0);
        faultIs("16 the lowest", x, 2, 0);
        LatticeArm y = arm(4);
        y.setValue(0, 1);
        y.addObstacle(1, 0);
        y.addObstacle(5, 5);
        y.addObstacle(2, 1);
        faultIs("16 beside", y, 0, 0);
        y.addObstacle(3, 3);
        faultIs("16 diagonal", y, 2, 0);
    }

    private static void overlaps() {
        LatticeArm x = arm(3, 1);
        faultIs("16 the next one straight", x, 0, 0);
        x.setValue(1, 4);
        faultIs("16 the next one back", x, 3, 1);
        x.setValue(1, -4);
        faultIs("16 the next one back, other way", x, 3, 1);
        x.setValue(1, 3);
        faultIs("16 sharp bend", x, 0, 0);
        LatticeArm square = arm(2, 2, 2, 2);
        square.setValue(1, 2);
        square.setValue(2, 2);
        square.setValue(3, 2);
        faultIs("16 the tip at the base", square, 3, 3);
        LatticeArm triangle = arm(2, 2, 2, 5);
        triangle.setValue(1, 3);
        triangle.setValue(2, 3);
        faultIs("16 the end of link 2 on link 0", triangle, 3, 2);
        triangle.setLimits(3, 0, 0);
        faultIs("16 the lowest", triangle, 3, 2);
        LatticeArm touch = arm(3, 1, 1);
        touch.setValue(1, 2);
        touch.setValue(2, 3);
        faultIs("16 link 2 touches link 0", touch, 3, 2);
        touch.setValue(2, 2);
        faultIs("16 link 2 beside link 0", touch, 0, 0);
        LatticeArm cross = arm(1, 2, 1, 1);
        cross.setValue(0, 1);
        cross.setValue(1, -3);
        cross.setValue(2, -3);
        faultIs("16 link 2 touches the base", cross, 3, 2);
        LatticeArm diagonal = arm(1, 1, 1);
        diagonal.setValue(0, 1);
        diagonal.setValue(1, 3);
        diagonal.setValue(2, 3);
        faultIs("16 diagonals that cross between cells", diagonal, 0, 0);
    }

    private static void orderOfFaults() {
        LatticeArm x = arm(5, 5, 5, 1);
        x.addObstacle(1, 0);
        faultIs("16 outside before obstacle", x, 1, 2);
        x.setValue(2, 4);
        faultIs("16 obstacle before overlap", x, 2, 0);
        x.removeObstacle(1, 0);
        faultIs("16 overlap", x, 3, 2);
        x.addObstacle(4, 0);
        faultIs("16 obstacle on both", x, 2, 0);
        x.removeObstacle(4, 0);
        x.addObstacle(5, 1);
        x.setValue(3, -2);
        faultIs("16 obstacle of a later link", x, 2, 3);
        x.setValue(1, 4);
        x.setValue(2, 0);
        faultIs("16 overlap of the lowest link", x, 3, 1);
        x.setLimits(3, 0, 0);
        x.setValue(2, 4);
        faultIs("16 overlap of all", x, 3, 1);
    }

    private static void linksAt() {
        LatticeArm x = arm(3, 2, 1);
        C.index("18 x 11", () -> x.linksAt(11, 0));
        C.index("18 y -11", () -> x.linksAt(0, -11));
        C.due("18 base", () -> x.linksAt(0, 0), 1);
        C.due("18 between", () -> x.linksAt(2, 0), 1);
        C.due("18 where two meet", () -> x.linksAt(3, 0), 3);
        C.due("18 second", () -> x.linksAt(4, 0), 2);
        C.due("18 second and third", () -> x.linksAt(5, 0), 6);
        C.due("18 tip", () -> x.linksAt(6, 0), 4);
        C.due("18 beyond", () -> x.linksAt(7, 0), 0);
        C.due("18 beside", () -> x.linksAt(2, 1), 0);
        x.setValue(1, 4);
        C.due("18 all", () -> x.linksAt(1, 0), 7);
        C.due("18 two", () -> x.linksAt(2, 0), 3);
        x.addObstacle(1, 0);
        C.due("18 all, with an obstacle", () -> x.linksAt(1, 0), 7);
        LatticeArm y = arm(5, 5, 5);
        C.due("18 border", () -> y.linksAt(10, 0), 6);
        C.due("18 no links", () -> new LatticeArm().linksAt(0, 0), 0);
    }

    private static void poseNumber() {
        LatticeArm x = new LatticeArm();
        x.addLink(1, 1, 2);
        x.addLink(1, 3, 0);
        x.addLink(1, 2, 2);
        int number = 0;
        for (int a = -1; a <= 2; a++) {
            for (int b = -3; b <= 0; b++) {
                for (int c = -2; c <= 2; c++) {
                    x.setValue(0, a);
                    x.setValue(1, b);
                    x.setValue(2, c);
                    C.due("19 " + a + " " + b + " " + c, x::poseNumber, number);
                    number++;
                }
            }
        }
        LatticeArm y = arm(5, 5, 5, 5);
        C.due("19 middle of all", y::poseNumber, 83520 / 2);
        for (int k = 0; k < 4; k++) {
            y.setValue(k, 8);
        }
        C.due("19 last of all", y::poseNumber, 83520);
    }

    private static void clearance() {
        LatticeArm x = new LatticeArm();
        C.element("20 nothing", x::clearance);
        x.addObstacle(-10, 4);
        C.element("20 no links", x::clearance);
        LatticeArm y = arm(5);
        C.element("20 no obstacles", y::clearance);
        y.addObstacle(-10, 4);
        C.due("20 from the base", y::clearance, 10);
        y.addObstacle(10, 10);
        C.due("20 greater y", y::clearance, 10);
        y.addObstacle(9, -2);
        C.due("20 greater x", y::clearance, 4);
        y.addObstacle(3, 2);
        C.due("20 between", y::clearance, 2);
        y.addObstacle(3, 0);
        C.due("20 on the link", y::clearance, 0);
        LatticeArm z = arm(5, 5, 5, 2);
        z.setValue(2, 1);
        z.setValue(3, 2);
        z.addObstacle(10, 9);
        C.due("20 cells outside count", z::clearance, 3);
        z.setValue(3, -1);
        C.due("20 the tip moved away", z::clearance, 5);
    }

    private static void winding() {
        LatticeArm x = arm(1, 1, 1, 1);
        int[][] cases = {{7, 0, 0, 0, 0}, {8, 0, 0, 0, 1}, {8, 7, 0, 0, 1}, {8, 8, 8, 8, 4}, {-1, 0, 0, 0, -1},
            {-8, 0, 0, 0, -1}, {-8, -1, 0, 0, -2}, {-8, -8, -8, -8, -4}, {-8, 8, -3, 2, -1}, {3, -3, 4, 3, 0}};
        for (int[] c : cases) {
            for (int k = 0; k < 4; k++) {
                x.setValue(k, c[k]);
            }
            C.due("21 " + java.util.Arrays.toString(c), x::winding, c[4]);
        }
    }
}
