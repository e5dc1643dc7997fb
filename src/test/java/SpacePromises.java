/** The sentences of the promises 22 to 31: all poses. */
final class SpacePromises {
    private static final String STATE = "IllegalStateException";
    private static final String INDEX = "IndexOutOfBoundsException";
    private static final String ELEMENT = "NoSuchElementException";
    private static final String TOO_MANY = "Throws IllegalStateException if there are more than 5000 poses";
    private static final String NOT_FREE = "Throws NoSuchElementException if the present pose is not free";
    private static final String OUTSIDE = "Throws IndexOutOfBoundsException if the cell is outside of the area";
    private static final int LEAST = Integer.MIN_VALUE;
    private static final int MOST = Integer.MAX_VALUE;

    private final Checks c;

    private SpacePromises(Checks checks) {
        c = checks;
    }

    static void run(Sentences s) {
        SpacePromises t = new SpacePromises(s.checks);
        t.freePosesSentences(s);
        t.poseValueSentences(s);
        t.isFreePoseSentences(s);
        t.posesAtSentences(s);
        t.connectedSentences(s);
        t.favoriteSentences(s);
        t.farthestSentences(s);
        t.groupsSentences(s);
        t.freedomSentences(s);
    }

    /** A call with 5000 poses, and with 5005, free or not. */
    static void tooMany(Checks checks, Checks.Act act) {
        LatticeArm few = Arms.justFewEnough();
        checks.due("5000 poses", () -> few.count(2), 5000);
        checks.due("5000 poses", () -> Checks.answerOf(() -> act.on(few)).equals(STATE), false);
        checks.due("5005 poses", () -> Arms.tooMany().count(2), 5005);
        checks.refused(STATE, "5005 poses", Arms::tooMany, act);
        checks.refused(STATE, "5005 poses, not free", Arms::tooManyAndFaulty, act);
        checks.refused(STATE, "the most poses", SpacePromises::most, act);
        LatticeArm x = Arms.tooMany();
        x.removeLink();
        checks.due("fewer again", () -> Checks.answerOf(() -> act.on(x)).equals(STATE), false);
        x.addLink(1, 6, 6);
        checks.due("too many again", () -> act.on(x), STATE);
    }

    private static LatticeArm most() {
        return Arms.arm(1, 8, 8, 1, 8, 8, 1, 8, 8, 1, 8, 8);
    }

    private void freePosesSentences(Sentences s) {
        s.promise(22);
        s.test("Returns the number of free poses.", () -> {
            c.due("no links", new LatticeArm()::freePoses, 1);
            c.due("none", Arms.stuck()::freePoses, 0);
            c.due("one", Arms.arm(5, 0, 0)::freePoses, 1);
            c.due("all", Arms.arm(5, 8, 8)::freePoses, 17);
            c.due("all but the folded ones", Arms.arm(5, 8, 8, 5, 8, 8)::freePoses, 17 * 15);
            c.due("all at the last cells", Arms.arm(5, 8, 8, 5, 0, 0)::freePoses, 17);
            c.due("none, all outside", Arms.arm(5, 8, 8, 5, 0, 0, 1, 0, 0)::freePoses, 0);
            c.due("the present one is not", Arms.parted()::freePoses, 2);
            LatticeArm x = Arms.arm(1, 8, 8);
            int[] due = {14, 12, 10, 8, 6, 4, 2, 0};
            for (int d = 0; d < 8; d++) {
                x.addObstacle(AreaEdges.STEP_X[d], AreaEdges.STEP_Y[d]);
                c.due("direction " + d + " blocked", x::freePoses, due[d]);
            }
        });
        s.test(TOO_MANY, () -> tooMany(c, LatticeArm::freePoses));
    }

    private void poseValueSentences(Sentences s) {
        s.promise(23);
        s.test("pose: the pose number", () -> {
            LatticeArm x = most();
            for (int k = 0; k < 4; k++) {
                int joint = k;
                c.due("the first one, joint " + k, () -> x.poseValue(0, joint), -8);
                c.due("the second one, joint " + k, () -> x.poseValue(1, joint), joint == 3 ? -7 : -8);
                c.due("the last but one, joint " + k, () -> x.poseValue(83519, joint), joint == 3 ? 7 : 8);
                c.due("the last one, joint " + k, () -> x.poseValue(83520, joint), 8);
            }
            c.due("when joint 2 changes first", () -> x.poseValue(17, 2), -7);
            c.due("when joint 0 changes first", () -> x.poseValue(4913, 0), -7);
            c.due("before that", () -> x.poseValue(4912, 0), -8);
            c.due("the present one", () -> x.poseValue(x.poseNumber(), 0), 0);
            c.due("the last one again", () -> x.poseValue(83520, 3), 8);
            x.setLimits(3, 0, 0);
            c.due("the last one when joint 3 has one value", () -> x.poseValue(4912, 3), 0);
            c.due("the last one when joint 3 has one value, joint 2", () -> x.poseValue(4912, 2), 8);
        });
        s.test("joint: the number of the joint", () -> {
            LatticeArm x = Arms.arm(1, 1, 0, 1, 2, 0, 1, 3, 0, 1, 4, 0);
            for (int k = 0; k < 4; k++) {
                int joint = k;
                c.due("joint " + k, () -> x.poseValue(0, joint), -1 - k);
            }
        });
        s.test("Throws IndexOutOfBoundsException if there is no such pose or joint", () -> {
            c.refused(INDEX, "no links, no joint", Arms::empty, x -> x.poseValue(0, 0));
            for (int pose : new int[] {-1, 30, 31, LEAST, MOST}) {
                c.refused(INDEX, "pose " + pose + " of 30", Arms::rich, x -> x.poseValue(pose, 0));
            }
            for (int joint : new int[] {-1, 2, 3, 4, LEAST, MOST}) {
                c.refused(INDEX, "joint " + joint + " of two", Arms::rich, x -> x.poseValue(29, joint));
            }
            c.refused(INDEX, "joint 4 of four", SpacePromises::most, x -> x.poseValue(0, 4));
            c.refused(INDEX, "pose 83521 of 83521", SpacePromises::most, x -> x.poseValue(83521, 0));
            c.refused(INDEX, "neither", Arms::rich, x -> x.poseValue(30, 2));
        });
    }

    private void isFreePoseSentences(Sentences s) {
        s.promise(24);
        s.test("Returns whether a pose is free.", () -> {
            c.due("no links", () -> new LatticeArm().isFreePose(0), true);
            boolean[] due = {true, false, true};
            for (int k = 0; k < 3; k++) {
                int pose = k;
                c.due("pose " + k, () -> Arms.parted().isFreePose(pose), due[k]);
            }
        });
        s.test("pose: the pose number", () -> {
            LatticeArm x = Arms.arm(1, 8, 8);
            x.addObstacle(1, 0);
            for (int k = 0; k < 17; k++) {
                int pose = k;
                c.due("pose " + k, () -> x.isFreePose(pose), k % 8 != 0);
            }
        });
        s.test("Returns true if it is.", () -> {
            LatticeArm x = most();
            c.due("the first one of the most", () -> x.isFreePose(0), true);
            c.due("the last one of the most", () -> x.isFreePose(83520), true);
            c.due("an overlap", () -> x.isFreePose(83520 - 4 * 289), false);
            x.addObstacle(4, 0);
            c.due("the last one, blocked", () -> x.isFreePose(83520), false);
            c.due("outside", () -> Arms.arm(5, 0, 0, 5, 0, 0, 1, 0, 0).isFreePose(0), false);
        });
        s.test("Throws IndexOutOfBoundsException if there is no such pose", () -> {
            c.refused(INDEX, "no links", Arms::empty, x -> x.isFreePose(1));
            for (int pose : new int[] {-1, 30, 31, LEAST, MOST}) {
                c.refused(INDEX, "pose " + pose + " of 30", Arms::rich, x -> x.isFreePose(pose));
            }
            c.refused(INDEX, "pose 83521 of 83521", SpacePromises::most, x -> x.isFreePose(83521));
        });
    }

    private void posesAtSentences(Sentences s) {
        s.promise(25);
        s.test("Returns the number of free poses with the tip at a cell.", () -> {
            c.due("no links", () -> new LatticeArm().posesAt(0, 0), 1);
            c.due("no links, beside", () -> new LatticeArm().posesAt(0, 1), 0);
            LatticeArm x = Arms.arm(5, 8, 8);
            for (int d = 0; d < 8; d++) {
                int k = d;
                c.due("direction " + d, () -> x.posesAt(5 * AreaEdges.STEP_X[k], 5 * AreaEdges.STEP_Y[k]), d == 0 ? 3 : 2);
                c.due("on the way, direction " + d,
                        () -> x.posesAt(4 * AreaEdges.STEP_X[k], 4 * AreaEdges.STEP_Y[k]), 0);
            }
            x.addLink(5, 0, 0);
            c.due("the last cell", () -> x.posesAt(10, 10), 2);
            c.due("the first cell", () -> x.posesAt(-10, -10), 2);
            x.addObstacle(-1, -1);
            c.due("poses that are not free", () -> x.posesAt(-10, -10), 0);
            c.due("an obstacle", () -> x.posesAt(-1, -1), 0);
            c.due("the base", () -> x.posesAt(0, 0), 0);
            LatticeArm y = Arms.arm(1, 0, 2);
            c.due("one of three values", () -> y.posesAt(0, 1), 1);
            y.setLimits(0, 0, 0);
            c.due("the only value", () -> y.posesAt(1, 0), 1);
            c.due("no value any more", () -> y.posesAt(0, 1), 0);
        });
        s.test(OUTSIDE, () -> LinkPromises.outside(c, (x, a, b) -> x.posesAt(a, b)));
        s.test(TOO_MANY, () -> tooMany(c, x -> x.posesAt(0, 1)));
    }

    private void connectedSentences(Sentences s) {
        s.promise(26);
        s.test("Returns the number of poses that are connected with the present pose, itself included.", () -> {
            c.due("no links", new LatticeArm()::connected, 1);
            c.due("limits 0 and 0", Arms.arm(1, 0, 0)::connected, 1);
            c.due("all", Arms.arm(1, 8, 8)::connected, 17);
            LatticeArm x = Arms.parted();
            x.setValue(0, 1);
            c.due("itself alone", x::connected, 1);
            x.setLimits(0, 8, 8);
            c.due("up to the next obstacle", x::connected, 7);
            x.setValue(0, -7);
            c.due("the other side", x::connected, 7);
            x.setValue(0, 8);
            c.due("not free at the limit", x::connected, 0);
            c.due("5000 poses at most", () -> Arms.justFewEnough().connected() <= 5000, true);
            c.due("all of two joints", Arms.arm(1, 3, 3, 1, 3, 3)::connected, 49);
        });
        s.test("Returns the number, 0 if it is not free.", () -> {
            c.due("an obstacle", Arms.parted()::connected, 0);
            c.due("one pose", Arms.stuck()::connected, 0);
            LatticeArm x = Arms.arm(1, 8, 8, 1, 8, 8);
            x.setValue(1, -4);
            c.due("an overlap", x::connected, 0);
            c.due("outside", Arms.arm(5, 8, 8, 5, 8, 8, 1, 8, 8)::connected, 0);
        });
        s.test(TOO_MANY, () -> tooMany(c, LatticeArm::connected));
        s.promise(27);
        s.test("Returns the number of cells that the tip has in the poses that are connected with the present one, 0 if "
                + "that is not free.", () -> {
            c.due("no links", new LatticeArm()::reachableCells, 1);
            c.due("one pose", Arms.arm(1, 0, 0)::reachableCells, 1);
            c.due("twice round", Arms.arm(1, 8, 8)::reachableCells, 8);
            c.due("once round but one", Arms.arm(1, 3, 3)::reachableCells, 7);
            c.due("at the last cells", Arms.arm(5, 8, 8, 5, 0, 0)::reachableCells, 8);
            LatticeArm x = Arms.arm(2, 3, 3);
            x.addObstacle(2, 2);
            c.due("connected ones alone", x::reachableCells, 4);
            x.setValue(0, 1);
            c.due("an obstacle", x::reachableCells, 0);
            c.due("an obstacle at the only pose", Arms.stuck()::reachableCells, 0);
        });
        s.test(TOO_MANY, () -> tooMany(c, LatticeArm::reachableCells));
    }

    private void favoriteIs(String what, LatticeArm x, int cellX, int cellY) {
        c.due(what + ", x", () -> x.favorite(false), cellX);
        c.due(what + ", y", () -> x.favorite(true), cellY);
    }

    private void favoriteSentences(Sentences s) {
        s.promise(28);
        s.test("Returns the cell that the tip has in the most of the poses that are connected with the present one; of "
                + "several, the one with the least x, and of these the one with the least y.", () -> {
            favoriteIs("no links", new LatticeArm(), 0, 0);
            favoriteIs("one pose", Arms.arm(5, 0, 0, 5, 0, 0), 10, 0);
            favoriteIs("thrice", Arms.arm(3, 8, 8), 3, 0);
            favoriteIs("twice each, the first corner", Arms.arm(3, 8, 7), -3, -3);
            favoriteIs("once each, the first corner", Arms.arm(3, 3, 4), -3, -3);
            favoriteIs("once each, least x", Arms.arm(3, 1, 3), -3, 3);
            favoriteIs("once each, least x, then least y", Arms.arm(3, 2, 2), 0, -3);
            favoriteIs("twice alone, though not least", Arms.arm(3, 0, 8), 3, 0);
            LatticeArm x = Arms.arm(5, 8, 8, 5, 0, 0);
            x.setValue(0, -3);
            x.setLimits(0, 3, 3);
            favoriteIs("the first cell of the area", x, -10, -10);
            x.addObstacle(-10, 0);
            x.addObstacle(0, -10);
            favoriteIs("connected ones alone", x, -10, -10);
            x.setValue(0, 2);
            favoriteIs("connected ones alone, the other ones", x, -10, 10);
            LatticeArm y = Arms.arm(5, 3, 0, 4, 0, 0, 1, 1, 0);
            y.addObstacle(-10, -10);
            y.setValue(0, -3);
            y.setValue(2, -1);
            favoriteIs("the second cell of the area", y, -10, -9);
        });
        s.test("isY: true for its y, false for its x", () -> favoriteIs("one", Arms.arm(5, 7, 0, 1, 0, 0), -6, -6));
        s.test("Returns the coordinate.", () -> favoriteIs("zero", Arms.arm(1, 0, 2, 1, 0, 0), 0, 2));
        s.test(TOO_MANY, () -> tooMany(c, x -> x.favorite(false)));
        s.test(NOT_FREE, () -> notFree(x -> x.favorite(true)));
    }

    /** A call in poses that are not free, for each of the faults. */
    private void notFree(Checks.Act act) {
        c.refused(ELEMENT, "an obstacle", Arms::faulty, act);
        c.refused(ELEMENT, "one pose", Arms::stuck, act);
        c.refused(ELEMENT, "an overlap", SpacePromises::folded, act);
        c.refused(ELEMENT, "outside", () -> Arms.arm(5, 8, 8, 5, 8, 8, 1, 8, 8), act);
        c.due("no links", () -> Checks.answerOf(() -> act.on(new LatticeArm())).equals(ELEMENT), false);
    }

    private static LatticeArm folded() {
        LatticeArm x = Arms.arm(1, 8, 8, 1, 8, 8);
        x.setValue(1, 4);
        return x;
    }

    private void farthestSentences(Sentences s) {
        s.promise(29);
        s.test("Returns the greatest number of moves that a best path from the present pose to a pose that is connected "
                + "with it has.", () -> {
            c.due("limits 0 and 8", Arms.arm(1, 0, 8)::farthest, 8);
            c.due("limits -8 and 0", Arms.arm(1, 8, 0)::farthest, 8);
            c.due("limits -8 and 8", Arms.arm(1, 8, 8)::farthest, 8);
            LatticeArm x = Arms.arm(1, 8, 8);
            x.setValue(0, 8);
            c.due("from the limit", x::farthest, 16);
            x.addObstacle(-1, -1);
            c.due("up to an obstacle", x::farthest, 2);
            c.due("all corners", Arms.arm(1, 1, 2, 1, 2, 1, 1, 1, 1)::farthest, 5);
            LatticeArm y = Arms.arm(2, 0, 1, 1, 0, 2);
            y.addObstacle(3, 1);
            c.due("not straight but round", y::farthest, 4);
        });
        s.test("Returns the number of moves.", () -> {
            c.due("no links", new LatticeArm()::farthest, 0);
            c.due("one pose", Arms.arm(1, 0, 0)::farthest, 0);
            LatticeArm x = Arms.parted();
            x.setValue(0, -1);
            c.due("alone", x::farthest, 0);
        });
        s.test(TOO_MANY, () -> tooMany(c, LatticeArm::farthest));
        s.test(NOT_FREE, () -> notFree(LatticeArm::farthest));
    }

    private void groupsSentences(Sentences s) {
        s.promise(30);
        s.test("Returns the number of groups of free poses that are connected with one another; a free pose that is "
                + "connected with no other one is a group, too.", () -> {
            c.due("no links", new LatticeArm()::groups, 1);
            c.due("none", Arms.stuck()::groups, 0);
            c.due("all outside", Arms.arm(5, 8, 8, 5, 0, 0, 1, 0, 0)::groups, 0);
            c.due("one of one", Arms.arm(1, 0, 0)::groups, 1);
            c.due("one of all", Arms.arm(1, 8, 8)::groups, 1);
            c.due("two of one each", Arms.parted()::groups, 2);
            LatticeArm x = Arms.arm(1, 8, 8);
            int[] due = {2, 4, 6, 8};
            for (int k = 0; k < 4; k++) {
                x.addObstacle(AreaEdges.STEP_X[2 * k], AreaEdges.STEP_Y[2 * k]);
                c.due("with direction " + 2 * k + " blocked", x::groups, due[k]);
            }
            c.due("parted by folds", Arms.arm(1, 0, 0, 1, 8, 8)::groups, 3);
            c.due("no wrap between the limits", Arms.arm(1, 0, 0, 1, 4, 4)::groups, 1);
            LatticeArm y = Arms.arm(2, 1, 1, 1, 0, 2, 1, 0, 1);
            y.addObstacle(2, 0);
            for (int links = 3; links >= 1; links--) {
                c.due("parted, " + links + " links", y::groups, 2);
                y.removeLink();
            }
            c.due("no links any more", y::groups, 1);
        });
        s.test(TOO_MANY, () -> tooMany(c, LatticeArm::groups));
    }

    private void freedomSentences(Sentences s) {
        s.promise(31);
        s.test("Returns the average number of moves that are possible in a free pose: the sum of these numbers divided by "
                + "the number of free poses, both converted to double.", () -> {
            c.due("no links", new LatticeArm()::freedom, 0.0);
            c.due("one pose", Arms.arm(1, 0, 0)::freedom, 0.0);
            c.due("each alone", Arms.parted()::freedom, 0.0);
            c.due("two poses", Arms.arm(1, 0, 1)::freedom, 1.0);
            c.due("three poses", Arms.arm(1, 1, 1)::freedom, 4.0 / 3.0);
            c.due("seventeen poses", Arms.arm(1, 8, 8)::freedom, 32.0 / 17.0);
            c.due("two joints", Arms.arm(1, 0, 1, 1, 0, 1)::freedom, 2.0);
            LatticeArm x = Arms.arm(2, 1, 3);
            x.addObstacle(2, 0);
            c.due("not to or from a pose that is not free", x::freedom, 1.0);
            LatticeArm y = Arms.arm(1, 1, 1, 1, 1, 1, 1, 0, 1);
            double[] due = {66.0 / 18.0, 24.0 / 9.0, 4.0 / 3.0, 0.0};
            for (int removed = 0; removed < 4; removed++) {
                c.due(removed + " links removed", y::freedom, due[removed]);
                Checks.answerOf(y::removeLink);
            }
        });
        s.test(TOO_MANY, () -> tooMany(c, LatticeArm::freedom));
        s.test("Throws ArithmeticException if there is no free pose", () -> {
            c.refused("ArithmeticException", "one pose", Arms::stuck, LatticeArm::freedom);
            c.refused("ArithmeticException", "all outside", () -> Arms.arm(5, 8, 8, 5, 0, 0, 1, 0, 0),
                    LatticeArm::freedom);
            LatticeArm x = Arms.stuck();
            x.setLimits(0, 1, 0);
            c.due("one free pose, though not the present one", x::freedom, 0.0);
        });
    }
}
