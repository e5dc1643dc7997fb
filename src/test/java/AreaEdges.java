/** The words of the description on the area, links, poses, moves and obstacles. */
final class AreaEdges {
    static final int[] STEP_X = {1, 1, 0, -1, -1, -1, 0, 1};
    static final int[] STEP_Y = {0, 1, 1, 1, 0, -1, -1, -1};

    private final Checks c;

    private AreaEdges(Checks checks) {
        c = checks;
    }

    static void run(Sentences s) {
        AreaEdges t = new AreaEdges(s.checks);
        s.description();
        s.test("The cells have coordinates x and y from -10 to 10.", t::area);
        s.test("The base of the arm is the cell (0, 0).", t::base);
        s.test("There are eight directions, numbered from 0: (1, 0), (1, 1), (0, 1), (-1, 1), (-1, 0), (-1, -1), "
                + "(0, -1), (1, -1); direction d + 8 is direction d.", t::directions);
        s.test("The arm has at most 4 links, numbered from 0 from the base on.", t::mostLinks);
        s.test("A link has a length from 1 to 5.", t::lengths);
        s.test("Joint k is where link k begins; it has a value, and a lower and an upper limit, from -8 to 8, where the "
                + "lower limit is not greater than 0 and the upper one is not less than 0.", t::limits);
        s.test("The value is at first 0, and always within the limits.", t::values);
        s.test("The direction of a link is the sum of the values of its joint and all joints before it, modulo 8, from "
                + "0 to 7.", t::sums);
        s.test("Link 0 begins at the base; each link ends as many cells away from its beginning, in its direction, as "
                + "its length says, and the next link begins there.", t::beginnings);
        s.test("The cells of a link are its beginning, its end, and those between.", t::cells);
        s.test("The tip is the end of the last link, or the base without links.", t::tips);
        s.test("A pose is a sequence of values of all joints within their limits; poses are ordered "
                + "lexicographically.", t::order);
        s.test("The pose number of a pose is its place in this order, from 0.", t::places);
        s.test("The number of poses is the product of the numbers of values that the joints can have; without links, "
                + "there is one pose.", t::products);
        s.test("A pose is free if it has none of these faults, of which the first one counts: 1, a cell of a link is "
                + "outside of the area; 2, a cell of a link is an obstacle; 3, two different links have a cell in "
                + "common, where, for a link and the next one alone, the cell where the next one begins does not count.",
                t::faults);
        s.test("For a fault, the link that counts is the one with the lowest number that has the fault, for fault 3 the "
                + "one with the lowest number that has a cell in common with one before it.", t::faultyLinks);
        s.test("Without links, the pose is free.", t::freeWithoutLinks);
        s.test("A move changes the value of one joint by 1 within its limits, from a free pose to a free pose.",
                t::moveEnds);
        s.test("The move 2k decreases the value of joint k, and the move 2k + 1 increases it.", t::moveNumbers);
        s.test("There are at most 60 obstacles, which are cells other than the base.", t::mostObstacles);
        s.test("Sets are bit masks, bit k for number k.", t::sets);
    }

    private void area() {
        int[][] last = {{-10, -10}, {-10, 10}, {10, -10}, {10, 10}, {-10, 0}, {10, 0}, {0, -10}, {0, 10}};
        for (int[] cell : last) {
            LatticeArm x = new LatticeArm();
            c.due("a last cell", () -> x.addObstacle(cell[0], cell[1]), 1);
            c.due("a last cell", () -> x.isObstacle(cell[0], cell[1]), true);
            c.due("its x", () -> x.obstacle(0, false), cell[0]);
            c.due("its y", () -> x.obstacle(0, true), cell[1]);
            c.due("a last cell", () -> x.removeObstacle(cell[0], cell[1]), 0);
        }
        int[][] beyond = {{-11, 0}, {11, 0}, {0, -11}, {0, 11}, {-11, -11}, {11, 11}, {-10, 11}, {11, -10}};
        for (int[] cell : beyond) {
            LatticeArm x = new LatticeArm();
            c.index("a first cell beyond", () -> x.addObstacle(cell[0], cell[1]));
            c.index("a first cell beyond", () -> x.isObstacle(cell[0], cell[1]));
            c.index("a first cell beyond", () -> x.linksAt(cell[0], cell[1]));
        }
        for (int d = 0; d < 8; d++) {
            LatticeArm x = Arms.arm(5, 8, 8, 5, 0, 0, 1, 0, 0);
            x.setValue(0, d);
            c.due("from -10 to 10 and one beyond", x::fault, 1);
            x.removeLink();
            c.due("up to the last cell", x::fault, 0);
        }
    }

    private void base() {
        LatticeArm x = new LatticeArm();
        c.due("tip x", () -> x.tip(false), 0);
        c.due("tip y", () -> x.tip(true), 0);
        c.argument("no obstacle there", () -> x.addObstacle(0, 0));
        for (int d = 0; d < 8; d++) {
            int k = d;
            c.due("one beside it", () -> x.addObstacle(STEP_X[k], STEP_Y[k]), d + 1);
        }
        x.addLink(1, 0, 0);
        c.due("link 0 begins there, x", () -> x.joint(0, 5), 0);
        c.due("link 0 begins there, y", () -> x.joint(0, 6), 0);
        c.due("link 0 has it", () -> x.linksAt(0, 0), 1);
    }

    private void directions() {
        LatticeArm x = Arms.arm(1, 8, 8);
        for (int value = -8; value <= 8; value++) {
            x.setValue(0, value);
            int d = (value + 8) % 8;
            c.due("direction with value " + value, () -> x.joint(0, 4), d);
            c.due("x with value " + value, () -> x.tip(false), STEP_X[d]);
            c.due("y with value " + value, () -> x.tip(true), STEP_Y[d]);
        }
    }

    private void mostLinks() {
        LatticeArm x = new LatticeArm();
        c.index("link 0 of none", () -> x.joint(0, 3));
        for (int link = 0; link < 4; link++) {
            c.due("link " + link, () -> x.addLink(1, 0, 0), link);
        }
        c.state("a fifth one", () -> x.addLink(1, 0, 0));
        for (int link = 0; link < 4; link++) {
            int k = link;
            c.due("from the base on", () -> x.joint(k, 5), link);
        }
        c.index("link -1", () -> x.joint(-1, 3));
        c.index("link 4", () -> x.joint(4, 3));
    }

    private void lengths() {
        LatticeArm x = new LatticeArm();
        c.argument("0", () -> x.addLink(0, 0, 0));
        c.argument("6", () -> x.addLink(6, 0, 0));
        c.due("1", () -> x.addLink(1, 0, 0), 0);
        c.due("tip of 1", () -> x.tip(false), 1);
        c.due("5", () -> x.addLink(5, 0, 0), 1);
        c.due("tip of 1 and 5", () -> x.tip(false), 6);
        c.due("length 1", () -> x.joint(0, 3), 1);
        c.due("length 5", () -> x.joint(1, 3), 5);
    }

    private void limits() {
        LatticeArm x = new LatticeArm();
        c.argument("lower -9", () -> x.addLink(1, 9, 0));
        c.argument("upper 9", () -> x.addLink(1, 0, 9));
        c.argument("lower 1", () -> x.addLink(1, -1, 0));
        c.argument("upper -1", () -> x.addLink(1, 0, -1));
        c.due("-8 to 0", () -> x.addLink(1, 8, 0), 0);
        c.due("0 to 8", () -> x.addLink(1, 0, 8), 1);
        int[][] due = {{-8, 0}, {0, 8}};
        for (int k = 0; k < 2; k++) {
            int joint = k;
            c.due("lower", () -> x.joint(joint, 1), due[k][0]);
            c.due("upper", () -> x.joint(joint, 2), due[k][1]);
        }
        x.setValue(0, -8);
        c.due("joint 1 is where link 1 begins, x", () -> x.joint(1, 5), 1);
        c.due("joint 1 is where link 1 begins, y", () -> x.joint(1, 6), 0);
    }

    private void values() {
        LatticeArm x = Arms.arm(1, 8, 0, 1, 0, 8, 1, 0, 0);
        for (int k = 0; k < 3; k++) {
            int joint = k;
            c.due("at first", () -> x.joint(joint, 0), 0);
        }
        c.argument("above 0", () -> x.setValue(0, 1));
        c.argument("below -8", () -> x.setValue(0, -9));
        c.argument("below 0", () -> x.setValue(1, -1));
        c.argument("above 8", () -> x.setValue(1, 9));
        c.state("moved above 0", () -> x.move(1));
        c.state("moved below 0", () -> x.move(2));
        c.due("-8", () -> x.setValue(0, -8), 0);
        c.due("8", () -> x.setValue(1, 8), 0);
        c.state("moved below -8", () -> x.move(0));
        c.state("moved above 8", () -> x.move(3));
        c.due("limits come to 0", () -> x.setLimits(0, 0, 8), 0);
        c.due("limits come to 7", () -> x.setLimits(1, 0, 7), 7);
        x.removeLink();
        x.removeLink();
        x.addLink(1, 0, 8);
        c.due("at first, where there was another link", () -> x.joint(1, 0), 0);
    }

    private void sums() {
        LatticeArm x = Arms.arm(1, 8, 8, 1, 8, 8, 1, 8, 8, 1, 8, 8);
        int[][] values = {{7, 1, -1, 1}, {-1, 1, -8, -1}, {8, 8, 8, 8}, {-8, -8, -8, -8}, {3, 4, 1, 0}, {-3, -4, -1, -1}};
        int[][] due = {{7, 0, 7, 0}, {7, 0, 0, 7}, {0, 0, 0, 0}, {0, 0, 0, 0}, {3, 7, 0, 0}, {5, 1, 0, 7}};
        for (int i = 0; i < values.length; i++) {
            for (int k = 0; k < 4; k++) {
                x.setValue(k, values[i][k]);
            }
            for (int k = 0; k < 4; k++) {
                int joint = k;
                c.due("case " + i + " joint " + k, () -> x.joint(joint, 4), due[i][k]);
            }
        }
    }

    private void beginnings() {
        LatticeArm x = Arms.arm(5, 8, 8, 1, 8, 8, 4, 8, 8, 5, 8, 8);
        x.setValue(0, 5);
        x.setValue(1, -1);
        x.setValue(2, 3);
        x.setValue(3, 8);
        int[][] due = {{0, 0}, {-5, -5}, {-6, -5}, {-2, -9}};
        int[] directions = {5, 4, 7, 7};
        for (int k = 0; k < 4; k++) {
            int joint = k;
            c.due("x of " + k, () -> x.joint(joint, 5), due[k][0]);
            c.due("y of " + k, () -> x.joint(joint, 6), due[k][1]);
            c.due("direction of " + k, () -> x.joint(joint, 4), directions[k]);
        }
        c.due("the end, x", () -> x.tip(false), 3);
        c.due("the end, y", () -> x.tip(true), -14);
    }

    private void cells() {
        LatticeArm x = Arms.arm(1, 8, 8);
        int[] due = {0, 1, 1, 0};
        for (int cell = -1; cell <= 2; cell++) {
            int k = cell;
            c.due("length 1, x " + cell, () -> x.linksAt(k, 0), due[cell + 1]);
        }
        LatticeArm y = Arms.arm(5, 8, 8);
        y.setValue(0, -3);
        for (int cell = -6; cell <= 1; cell++) {
            int k = cell;
            c.due("length 5, diagonal at " + cell, () -> y.linksAt(k, k), cell >= -5 && cell <= 0 ? 1 : 0);
        }
        c.due("length 5, beside", () -> y.linksAt(-2, -1), 0);
    }

    private void tips() {
        LatticeArm x = new LatticeArm();
        c.due("none, x", () -> x.tip(false), 0);
        c.due("none, y", () -> x.tip(true), 0);
        for (int links = 1; links <= 4; links++) {
            x.addLink(2, 0, 0);
            c.due(links + ", x", () -> x.tip(false), 2 * links);
        }
        for (int links = 3; links >= 0; links--) {
            x.removeLink();
            c.due(links + " left, x", () -> x.tip(false), 2 * links);
        }
    }

    private void order() {
        LatticeArm x = Arms.arm(1, 1, 0, 1, 0, 0, 1, 0, 2);
        int[][] poses = {{-1, 0, 0}, {-1, 0, 1}, {-1, 0, 2}, {0, 0, 0}, {0, 0, 1}, {0, 0, 2}};
        for (int i = 0; i < poses.length; i++) {
            for (int k = 0; k < 3; k++) {
                int pose = i;
                int joint = k;
                c.due("pose " + i + " joint " + k, () -> x.poseValue(pose, joint), poses[i][k]);
            }
        }
        c.index("a seventh pose", () -> x.poseValue(6, 0));
    }

    private void places() {
        c.due("without links", new LatticeArm()::poseNumber, 0);
        LatticeArm x = Arms.arm(1, 8, 8, 1, 8, 8, 1, 8, 8, 1, 8, 8);
        for (int k = 0; k < 4; k++) {
            x.setValue(k, -8);
        }
        c.due("the first one", x::poseNumber, 0);
        x.setValue(3, -7);
        c.due("the second one", x::poseNumber, 1);
        for (int k = 0; k < 4; k++) {
            x.setValue(k, 8);
        }
        c.due("the last one", x::poseNumber, 83520);
        x.setValue(0, 7);
        c.due("joint 0 counts most", x::poseNumber, 83520 - 4913);
    }

    private void products() {
        LatticeArm x = new LatticeArm();
        c.due("without links", () -> x.count(2), 1);
        int[] spans = {17, 1, 9, 2};
        int[][] limits = {{8, 8}, {0, 0}, {0, 8}, {1, 0}};
        int product = 1;
        for (int k = 0; k < 4; k++) {
            x.addLink(1, limits[k][0], limits[k][1]);
            product *= spans[k];
            c.due(k + 1 + " links", () -> x.count(2), product);
        }
        for (int k = 0; k < 4; k++) {
            x.setLimits(k, 8, 8);
        }
        c.due("the most", () -> x.count(2), 83521);
        for (int k = 0; k < 4; k++) {
            x.setLimits(k, 0, 0);
        }
        c.due("the fewest", () -> x.count(2), 1);
    }

    private void faults() {
        LatticeArm x = Arms.arm(5, 8, 8, 5, 8, 8, 5, 8, 8);
        x.addObstacle(10, 0);
        x.setValue(2, 4);
        c.due("2, and 3", x::fault, 2);
        x.setValue(2, 0);
        c.due("1, and 2", x::fault, 1);
        x.removeObstacle(10, 0);
        c.due("1 alone", x::fault, 1);
        x.setValue(2, 4);
        c.due("3 alone", x::fault, 3);
        x.setValue(2, 3);
        c.due("none, the beginning of the next one does not count", x::fault, 0);
        x.setValue(1, 4);
        x.setValue(2, 0);
        c.due("the next one has more than its beginning", x::fault, 3);
        LatticeArm y = Arms.arm(2, 8, 8, 2, 8, 8, 2, 8, 8, 2, 8, 8);
        y.setValue(1, 2);
        y.setValue(2, 2);
        c.due("beside", y::fault, 0);
        y.setValue(3, 2);
        c.due("the tip at the base, not the next one", y::fault, 3);
        LatticeArm z = Arms.arm(2, 8, 8, 1, 8, 8, 1, 8, 8);
        z.setValue(1, 3);
        z.setValue(2, 3);
        c.due("link 2 ends in the middle of link 0", z::fault, 3);
        LatticeArm last = Arms.arm(5, 0, 0, 5, 0, 0);
        c.due("at the last cell", last::fault, 0);
        last.addObstacle(10, 0);
        c.due("an obstacle at the tip", last::fault, 2);
    }

    private void faultyLinks() {
        LatticeArm x = Arms.arm(5, 8, 8, 5, 8, 8, 5, 8, 8, 5, 8, 8);
        c.due("1, of link 2 and 3", x::faultyLink, 2);
        x.addObstacle(3, 0);
        c.due("1, though link 0 has an obstacle", x::faultyLink, 2);
        x.setValue(2, 4);
        c.due("2, of link 0 before the overlaps", x::faultyLink, 0);
        x.removeObstacle(3, 0);
        c.due("3, of link 2 which lies on link 1", x::faultyLink, 2);
        x.addObstacle(5, 0);
        c.due("2, of link 0 though link 1 has the cell, too", x::faultyLink, 0);
        x.removeObstacle(5, 0);
        x.setValue(1, 4);
        x.setValue(2, 2);
        c.due("3, of link 1 which lies on link 0", x::faultyLink, 1);
        LatticeArm y = Arms.arm(2, 8, 8, 2, 8, 8, 2, 8, 8, 2, 8, 8);
        y.setValue(1, 2);
        y.setValue(2, 2);
        y.setValue(3, 2);
        c.due("3, of link 3 alone, not of link 0 where it ends", y::faultyLink, 3);
        y.setValue(1, 0);
        y.setValue(2, 0);
        y.setValue(3, 0);
        y.addObstacle(8, 0);
        c.due("2, of link 3 alone", y::faultyLink, 3);
    }

    private void freeWithoutLinks() {
        LatticeArm x = new LatticeArm();
        for (int d = 0; d < 8; d++) {
            x.addObstacle(STEP_X[d], STEP_Y[d]);
        }
        c.due("fault", x::fault, 0);
        c.element("faulty link", x::faultyLink);
        c.due("is free", () -> x.isFreePose(0), true);
        c.due("free poses", x::freePoses, 1);
        c.due("connected", x::connected, 1);
        x.addLink(1, 0, 0);
        c.due("with a link", x::fault, 2);
        x.removeLink();
        c.due("without it again", x::fault, 0);
    }

    private void moveEnds() {
        LatticeArm x = Arms.arm(1, 1, 1);
        c.due("to the upper limit", () -> x.move(1), 1);
        c.state("beyond it", () -> x.move(1));
        c.due("by 1", () -> x.move(0), 0);
        c.due("to the lower limit", () -> x.move(0), -1);
        c.state("beyond it", () -> x.move(0));
        c.due("the value stays", () -> x.joint(0, 0), -1);
        LatticeArm y = Arms.parted();
        c.state("from a pose that is not free", () -> y.move(0));
        c.due("moves from it", y::moves, 0);
        y.setValue(0, 1);
        c.state("to a pose that is not free", () -> y.move(0));
        c.due("moves to it", y::moves, 0);
    }

    private void moveNumbers() {
        LatticeArm x = Arms.arm(1, 1, 1, 1, 1, 1, 1, 1, 1, 1, 1, 1);
        for (int k = 0; k < 4; k++) {
            int joint = k;
            c.due("move " + 2 * k, () -> x.move(2 * joint), -1);
            c.due("joint " + k, () -> x.joint(joint, 0), -1);
            c.due("move " + (2 * k + 1), () -> x.move(2 * joint + 1), 0);
            c.due("joint " + k, () -> x.joint(joint, 0), 0);
        }
        c.argument("move -1", () -> x.move(-1));
        c.argument("move 8", () -> x.move(8));
    }

    private void mostObstacles() {
        LatticeArm x = new LatticeArm();
        c.argument("the base, first of all", () -> x.addObstacle(0, 0));
        for (int i = 0; i < 60; i++) {
            int k = i;
            c.due("obstacle " + i, () -> x.addObstacle(k % 20 - 10, 1 + k / 20), i + 1);
        }
        c.state("a 61st one", () -> x.addObstacle(10, 10));
        c.due("sixty", () -> x.count(1), 60);
        c.due("59", () -> x.removeObstacle(-10, 1), 59);
        c.due("sixty again", () -> x.addObstacle(10, 10), 60);
    }

    private void sets() {
        LatticeArm x = Arms.arm(1, 1, 1, 1, 1, 1, 1, 1, 1, 1, 1, 1);
        c.due("all eight moves", x::moves, 255);
        for (int k = 0; k < 4; k++) {
            x.setLimits(k, k == 0 ? 1 : 0, k == 3 ? 1 : 0);
        }
        c.due("the moves 0 and 7", x::moves, 1 + 128);
        c.due("link 0", () -> x.linksAt(0, 0), 1);
        c.due("the links 1 and 2", () -> x.linksAt(2, 0), 6);
        c.due("link 3", () -> x.linksAt(4, 0), 8);
        c.due("no link", () -> x.linksAt(5, 0), 0);
        c.due("no move", new LatticeArm()::moves, 0);
    }
}
