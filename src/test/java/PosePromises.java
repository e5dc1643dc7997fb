/** The sentences of the promises 12 to 21: the present pose. */
final class PosePromises {
    private static final String ARGUMENT = "IllegalArgumentException";
    private static final String STATE = "IllegalStateException";
    private static final String INDEX = "IndexOutOfBoundsException";
    private static final String ELEMENT = "NoSuchElementException";
    private static final int LEAST = Integer.MIN_VALUE;
    private static final int MOST = Integer.MAX_VALUE;

    private final Checks c;

    private PosePromises(Checks checks) {
        c = checks;
    }

    static void run(Sentences s) {
        PosePromises t = new PosePromises(s.checks);
        t.setValueSentences(s);
        t.moveSentences(s);
        t.movesSentences(s);
        t.tipSentences(s);
        t.faultSentences(s);
        t.linksAtSentences(s);
        t.restSentences(s);
    }

    /** Four links of length 1 with all limits, with values. */
    private static LatticeArm four(int... values) {
        LatticeArm x = Arms.arm(1, 8, 8, 1, 8, 8, 1, 8, 8, 1, 8, 8);
        for (int k = 0; k < 4; k++) {
            x.setValue(k, values[k]);
        }
        return x;
    }

    private void setValueSentences(Sentences s) {
        s.promise(12);
        s.test("Sets the value of a joint, whether the pose is free then or not.", () -> {
            LatticeArm x = Arms.parted();
            c.due("to a free one", () -> x.setValue(0, 1), 0);
            c.due("fault", x::fault, 0);
            c.due("to one that is not", () -> x.setValue(0, 0), 1);
            c.due("fault", x::fault, 2);
            c.due("from one that is not, past it", () -> x.setValue(0, -1), 0);
            c.due("value", () -> x.joint(0, 0), -1);
            LatticeArm y = four(0, 0, 0, 0);
            y.setValue(1, 4);
            c.due("to an overlap", y::fault, 3);
            c.due("the other values stay", () -> y.joint(0, 0) + y.joint(2, 0) + y.joint(3, 0), 0);
        });
        s.test("joint: the number of the joint", () -> {
            LatticeArm x = four(0, 0, 0, 0);
            c.index("-1", () -> x.setValue(-1, 1));
            c.due("0", () -> x.setValue(0, 1), 0);
            c.due("3", () -> x.setValue(3, 2), 0);
            c.index("4", () -> x.setValue(4, 1));
            int[] due = {1, 0, 0, 2};
            for (int k = 0; k < 4; k++) {
                int joint = k;
                c.due("value of " + k, () -> x.joint(joint, 0), due[k]);
            }
        });
        s.test("value: the value", () -> {
            LatticeArm x = Arms.arm(1, 8, 8);
            c.argument("-9", () -> x.setValue(0, -9));
            c.due("-8", () -> x.setValue(0, -8), 0);
            c.due("8", () -> x.setValue(0, 8), -8);
            c.argument("9", () -> x.setValue(0, 9));
            c.due("value", () -> x.joint(0, 0), 8);
        });
        s.test("Returns the previous value.", () -> {
            LatticeArm x = Arms.arm(1, 8, 8);
            c.due("at first", () -> x.setValue(0, 8), 0);
            c.due("8", () -> x.setValue(0, 8), 8);
            c.due("8 again", () -> x.setValue(0, -8), 8);
            c.due("-8", () -> x.setValue(0, 0), -8);
        });
        s.test("Throws IndexOutOfBoundsException if there is no such joint", () -> {
            c.refused(INDEX, "none", Arms::empty, x -> x.setValue(0, 0));
            for (int joint : new int[] {-1, 2, 3, 4, LEAST, MOST}) {
                c.refused(INDEX, "joint " + joint, Arms::rich, x -> x.setValue(joint, 0));
            }
            c.refused(INDEX, "joint 4 of four", Arms::long4, x -> x.setValue(4, 0));
        });
        s.test("Throws IllegalArgumentException if value is not within the limits", () -> {
            for (int value : new int[] {-4, 3, -8, 8, LEAST, MOST}) {
                c.refused(ARGUMENT, "value " + value + " for -3 to 2", Arms::rich, x -> x.setValue(0, value));
            }
            c.refused(ARGUMENT, "1 for 0 to 0", Arms::stuck, x -> x.setValue(0, 1));
            c.refused(ARGUMENT, "-1 for 0 to 0", Arms::stuck, x -> x.setValue(0, -1));
            LatticeArm x = Arms.rich();
            c.due("the lower limit", () -> x.setValue(0, -3), -1);
            c.due("the upper limit", () -> x.setValue(0, 2), -3);
        });
    }

    private void moveSentences(Sentences s) {
        s.promise(13);
        s.test("Makes a move.", () -> {
            LatticeArm x = four(0, 0, 0, 0);
            x.move(7);
            c.due("the last joint up", () -> x.joint(3, 0), 1);
            x.move(0);
            c.due("the first joint down", () -> x.joint(0, 0), -1);
            c.due("the others stay", () -> x.joint(1, 0) + x.joint(2, 0), 0);
        });
        s.test("move: the move", () -> {
            c.argument("-1", () -> four(0, 0, 0, 0).move(-1));
            c.due("0", () -> four(0, 0, 0, 0).move(0), -1);
            c.due("7", () -> four(0, 0, 0, 0).move(7), 1);
            c.argument("8", () -> four(0, 0, 0, 0).move(8));
        });
        s.test("Returns the value of its joint then.", () -> {
            LatticeArm x = Arms.arm(1, 8, 8);
            for (int value = 1; value <= 8; value++) {
                c.due("up", () -> x.move(1), value);
            }
            for (int value = 7; value >= -8; value--) {
                c.due("down", () -> x.move(0), value);
            }
        });
        s.test("Throws IllegalArgumentException if there is no joint for the move", () -> {
            c.refused(ARGUMENT, "no links", Arms::empty, x -> x.move(0));
            for (int move : new int[] {-1, -2, 4, 5, 8, LEAST, MOST}) {
                c.refused(ARGUMENT, "move " + move + " of two links", Arms::rich, x -> x.move(move));
            }
            c.refused(ARGUMENT, "move 8 of four links", Arms::long4, x -> x.move(8));
            LatticeArm x = Arms.rich();
            c.due("move 3 of two links", () -> x.move(3), 1);
        });
        s.test("Throws IllegalStateException if the present pose is not free, the value would not be within the limits, "
                + "or the pose would not be free then", this::moveRefused);
    }

    private void moveRefused() {
        c.refused(STATE, "from an obstacle", Arms::faulty, x -> x.move(1));
        c.refused(STATE, "from an overlap", () -> four(0, 4, 0, 0), x -> x.move(2));
        c.refused(STATE, "from outside", PosePromises::beyondBorder, x -> x.move(5));
        c.refused(STATE, "above 8", () -> four(8, 0, 0, 0), x -> x.move(1));
        c.refused(STATE, "below -8", () -> four(-8, 0, 0, 0), x -> x.move(0));
        c.refused(STATE, "above 0", () -> Arms.arm(1, 8, 0), x -> x.move(1));
        c.refused(STATE, "below 0", () -> Arms.arm(1, 0, 8), x -> x.move(0));
        c.refused(STATE, "to an overlap", () -> four(0, 3, 0, 0), x -> x.move(3));
        c.refused(STATE, "to the outside", PosePromises::atBorder, x -> x.move(4));
        LatticeArm x = atBorder();
        c.due("along the border", () -> x.move(5), 3);
        LatticeArm y = Arms.parted();
        y.setValue(0, 1);
        y.planToPose(2);
        c.state("to an obstacle", () -> y.move(0));
        c.due("the path stays", y::pathLength, 0);
    }

    /** At the last cell with the second link, and along the border with the third one. */
    private static LatticeArm atBorder() {
        LatticeArm x = Arms.arm(5, 0, 0, 5, 0, 0, 2, 8, 8);
        x.setValue(2, 2);
        return x;
    }

    /** The third link ends outside of the area, but would not with a value greater by 1. */
    private static LatticeArm beyondBorder() {
        LatticeArm x = atBorder();
        x.setValue(2, 1);
        return x;
    }

    private void movesSentences(Sentences s) {
        s.promise(14);
        s.test("Returns the moves that are possible; none is if the present pose is not free.", () -> {
            c.due("no links", new LatticeArm()::moves, 0);
            c.due("all", four(0, 0, 0, 0)::moves, 255);
            c.due("at the upper limits", four(8, 8, 8, 8)::moves, 1 + 4 + 16 + 64);
            c.due("at the lower limits", four(-8, -8, -8, -8)::moves, 2 + 8 + 32 + 128);
            c.due("limits 0 and 0", Arms.arm(1, 0, 0)::moves, 0);
            c.due("not free, an obstacle", Arms.parted()::moves, 0);
            c.due("not free, an overlap", four(0, 4, 0, 0)::moves, 0);
            c.due("not free, outside", Arms.arm(5, 8, 8, 5, 8, 8, 1, 8, 8)::moves, 0);
            c.due("before an overlap", four(0, 3, 0, 0)::moves, 255 - 8);
            c.due("at the border", atBorder()::moves, 32);
        });
    }

    private void tipSentences(Sentences s) {
        s.promise(15);
        s.test("isY: true for y, false for x", () -> {
            LatticeArm x = Arms.arm(5, 8, 8);
            x.setValue(0, 7);
            c.due("x", () -> x.tip(false), 5);
            c.due("y", () -> x.tip(true), -5);
        });
        s.test("Returns the coordinate, also if it is outside of the area.", () -> {
            LatticeArm x = Arms.arm(5, 8, 8, 5, 8, 8, 1, 8, 8);
            int[] dx = AreaEdges.STEP_X;
            int[] dy = AreaEdges.STEP_Y;
            for (int d = 0; d < 8; d++) {
                x.setValue(0, d);
                c.due("first cell outside, x", () -> x.tip(false), 11 * dx[d]);
                c.due("first cell outside, y", () -> x.tip(true), 11 * dy[d]);
            }
            x.removeLink();
            x.addLink(5, 8, 8);
            x.addLink(5, 8, 8);
            for (int d = 0; d < 8; d++) {
                x.setValue(0, d);
                c.due("farthest cell, x", () -> x.tip(false), 20 * dx[d]);
                c.due("farthest cell, y", () -> x.tip(true), 20 * dy[d]);
            }
            c.due("no links", () -> new LatticeArm().tip(true), 0);
        });
    }

    private void faultSentences(Sentences s) {
        s.promise(16);
        s.test("Returns 0 if it is free, otherwise 1 to 3.", () -> {
            c.due("no links", new LatticeArm()::fault, 0);
            c.due("free", four(0, 3, 0, 0)::fault, 0);
            c.due("outside", Arms.arm(5, 0, 0, 5, 0, 0, 1, 0, 0)::fault, 1);
            c.due("an obstacle", Arms.parted()::fault, 2);
            c.due("an overlap", four(0, 4, 0, 0)::fault, 3);
            LatticeArm x = Arms.parted();
            x.removeObstacle(2, 0);
            c.due("free again", x::fault, 0);
        });
        s.promise(17);
        s.test("Returns the link that counts for the first fault of the present pose.", () -> {
            c.due("the first one", Arms.parted()::faultyLink, 0);
            c.due("the second one", four(0, 4, 0, 0)::faultyLink, 1);
            c.due("the last one", Arms.arm(5, 0, 0, 4, 0, 0, 1, 0, 0, 1, 0, 0)::faultyLink, 3);
            LatticeArm x = Arms.arm(5, 0, 0, 4, 0, 0, 1, 0, 0, 1, 0, 0);
            x.addObstacle(1, 0);
            c.due("the first fault, not the first link", x::faultyLink, 3);
        });
        s.test("Returns the number of the link.", () -> {
            for (int k = 0; k < 4; k++) {
                LatticeArm x = four(0, 0, 0, 0);
                x.addObstacle(k + 1, 0);
                c.due("an obstacle at its end", x::faultyLink, k);
            }
        });
        s.test("Throws NoSuchElementException if it is free", () -> {
            c.refused(ELEMENT, "rich", Arms::rich, LatticeArm::faultyLink);
            c.refused(ELEMENT, "no links", Arms::empty, LatticeArm::faultyLink);
            LatticeArm x = Arms.parted();
            c.due("not free", x::faultyLink, 0);
            x.setValue(0, 1);
            c.element("free then", x::faultyLink);
        });
    }

    private void linksAtSentences(Sentences s) {
        s.promise(18);
        s.test("Returns the links that have a cell; a cell where one link ends and the next one begins is of both.", () -> {
            c.due("no links", () -> new LatticeArm().linksAt(0, 0), 0);
            LatticeArm x = Arms.arm(2, 8, 8, 2, 8, 8, 2, 8, 8, 4, 8, 8);
            int[] due = {1, 1, 3, 2, 6, 4, 12, 8, 8, 8, 8};
            for (int cell = 0; cell <= 10; cell++) {
                int k = cell;
                c.due("straight, x " + cell, () -> x.linksAt(k, 0), due[k]);
            }
            c.due("beside", () -> x.linksAt(3, 1), 0);
            c.due("before", () -> x.linksAt(-1, 0), 0);
            LatticeArm y = four(0, 4, 4, 4);
            c.due("folded, all have the base", () -> y.linksAt(0, 0), 15);
            c.due("folded, all have the other cell", () -> y.linksAt(1, 0), 15);
            LatticeArm z = Arms.arm(5, 8, 8, 5, 8, 8, 5, 8, 8);
            c.due("the last cell of the area", () -> z.linksAt(10, 0), 6);
        });
        s.test("Throws IndexOutOfBoundsException if the cell is outside of the area", () -> {
            LinkPromises.outside(c, (x, a, b) -> x.linksAt(a, b));
            c.index("though a link has it", () -> Arms.arm(5, 0, 0, 5, 0, 0, 1, 0, 0).linksAt(11, 0));
        });
    }

    private void restSentences(Sentences s) {
        s.promise(19);
        s.test("Returns the pose number of the present pose.", () -> {
            c.due("no links", new LatticeArm()::poseNumber, 0);
            c.due("limits 0 and 0", Arms.arm(1, 0, 0)::poseNumber, 0);
            c.due("lower limit 0", Arms.arm(1, 0, 8)::poseNumber, 0);
            c.due("upper limit 0", Arms.arm(1, 8, 0)::poseNumber, 8);
            c.due("the first one", four(-8, -8, -8, -8)::poseNumber, 0);
            c.due("the last one", four(8, 8, 8, 8)::poseNumber, 83520);
            c.due("one that is not free", four(0, 4, 0, 0)::poseNumber, 83520 / 2 + 4 * 289);
            LatticeArm x = Arms.arm(1, 1, 1);
            x.setLimits(0, 8, 1);
            c.due("with new limits", x::poseNumber, 8);
        });
        s.promise(20);
        s.test("Returns the clearance: the least distance of a cell of a link from an obstacle, where the distance of two "
                + "cells is the greater one of the absolute values of the differences of their coordinates; cells "
                + "outside of the area count, too.", this::clearances);
        s.test("Throws NoSuchElementException if there are no links or no obstacles", () -> {
            c.refused(ELEMENT, "neither", Arms::empty, LatticeArm::clearance);
            c.refused(ELEMENT, "no obstacles", () -> Arms.arm(2, 1, 1), LatticeArm::clearance);
            c.refused(ELEMENT, "no links", PosePromises::obstacleAlone, LatticeArm::clearance);
            LatticeArm x = obstacleAlone();
            x.addLink(1, 0, 0);
            c.due("both", x::clearance, 3);
            x.removeObstacle(3, 3);
            c.element("no obstacles any more", x::clearance);
        });
        s.promise(21);
        s.test("Returns the winding of the arm: the sum of the values of all joints, divided by 8, rounded down.", () -> {
            c.due("no links", new LatticeArm()::winding, 0);
            int[][] values = {{0, 0, 0, 0}, {7, 0, 0, 0}, {8, 0, 0, 0}, {8, 7, 0, 0}, {8, 8, 0, 0}, {-1, 0, 0, 0},
                {-8, 0, 0, 0}, {-8, -1, 0, 0}, {-8, -8, 0, 0}, {-8, -8, -1, 0}, {8, 8, 8, 8}, {8, 8, 8, 7},
                {-8, -8, -8, -8}, {-8, -8, -8, -7}, {8, -8, 7, -7}, {8, -8, -7, 6}};
            int[] due = {0, 0, 1, 1, 2, -1, -1, -2, -2, -3, 4, 3, -4, -4, 0, -1};
            for (int i = 0; i < values.length; i++) {
                c.due("case " + i, four(values[i])::winding, due[i]);
            }
            LatticeArm x = four(8, 8, 8, 8);
            for (int links = 3; links >= 0; links--) {
                x.removeLink();
                c.due(links + " links that are left", x::winding, links);
            }
        });
    }

    private static LatticeArm obstacleAlone() {
        LatticeArm x = new LatticeArm();
        x.addObstacle(3, 3);
        x.planToPose(0);
        return x;
    }

    private void clearances() {
        LatticeArm x = Arms.arm(5, 8, 8);
        x.addObstacle(-10, 10);
        c.due("the greatest", x::clearance, 10);
        x.addObstacle(-9, 2);
        c.due("x counts more", x::clearance, 9);
        x.addObstacle(-2, -8);
        c.due("y counts more", x::clearance, 8);
        x.addObstacle(9, 4);
        c.due("from the tip, as much of both", x::clearance, 4);
        x.addObstacle(3, -3);
        c.due("from the middle", x::clearance, 3);
        x.addObstacle(6, 1);
        c.due("a neighbour", x::clearance, 1);
        x.addObstacle(5, 0);
        c.due("on the tip", x::clearance, 0);
        int[][] behind = {{-5, 0}, {0, 5}, {0, -5}, {-5, 5}, {-5, -5}};
        for (int[] cell : behind) {
            LatticeArm z = Arms.arm(5, 8, 8);
            z.addObstacle(cell[0], cell[1]);
            c.due("from the base", z::clearance, 5);
        }
        LatticeArm left = Arms.arm(2, 8, 8, 5, 8, 8);
        left.addObstacle(8, 0);
        c.due("from the last link", left::clearance, 1);
        left.removeLink();
        c.due("without it", left::clearance, 6);
        LatticeArm y = Arms.arm(5, 8, 8, 5, 8, 8, 5, 8, 8, 1, 8, 8);
        y.setValue(2, 1);
        y.setValue(3, 2);
        y.addObstacle(10, 9);
        c.due("cells outside count, the tip", y::clearance, 4);
        y.setValue(0, 3);
        c.due("the base is nearest", y::clearance, 10);
    }
}
