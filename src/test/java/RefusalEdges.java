/** The words of the description on exceptions, for every method that throws one. */
final class RefusalEdges {
    private static final String ARGUMENT = "IllegalArgumentException";
    private static final String STATE = "IllegalStateException";
    private static final String INDEX = "IndexOutOfBoundsException";
    private static final String ELEMENT = "NoSuchElementException";
    private static final String UNSUPPORTED = "UnsupportedOperationException";

    private final Checks c;

    private RefusalEdges(Checks checks) {
        c = checks;
    }

    static void run(Sentences s) {
        RefusalEdges t = new RefusalEdges(s.checks);
        s.description();
        s.test("A method that throws an exception leaves the state unchanged, unless its documentation says otherwise.",
                t::unchanged);
        s.test("If several exceptions apply, the one that is documented first is thrown.", t::first);
        s.test("Methods whose documentation does not mention a change only answer a question.", t::questions);
    }

    private void unchanged() {
        unchangedLinks();
        unchangedObstacles();
        unchangedPlans();
        unchangedRest();
    }

    private void unchangedLinks() {
        c.refused(ARGUMENT, "addLink(6, 1, 1)", Arms::rich, x -> x.addLink(6, 1, 1));
        c.refused(STATE, "addLink to four", Arms::long4, x -> x.addLink(1, 1, 1));
        c.refused(STATE, "removeLink of none", Arms::empty, LatticeArm::removeLink);
        c.refused(INDEX, "setLimits(2, 0, 0)", Arms::rich, x -> x.setLimits(2, 0, 0));
        c.refused(ARGUMENT, "setLimits(0, 0, 9)", Arms::rich, x -> x.setLimits(0, 0, 9));
        c.refused(ARGUMENT, "setLimits(0, 9, 0)", Arms::rich, x -> x.setLimits(0, 9, 0));
        c.refused(INDEX, "joint(2, 0)", Arms::rich, x -> x.joint(2, 0));
        c.refused(ARGUMENT, "joint(0, 8)", Arms::rich, x -> x.joint(0, 8));
        c.refused(ARGUMENT, "count(4)", Arms::rich, x -> x.count(4));
        c.refused(INDEX, "setValue(2, 0)", Arms::rich, x -> x.setValue(2, 0));
        c.refused(ARGUMENT, "setValue(0, 3)", Arms::rich, x -> x.setValue(0, 3));
        c.refused(ARGUMENT, "move(4)", Arms::rich, x -> x.move(4));
        c.refused(STATE, "move from a pose that is not free", Arms::faulty, x -> x.move(0));
        c.refused(STATE, "move beyond a limit", Arms::long4, x -> x.move(7));
        c.refused(STATE, "move to a pose that is not free", RefusalEdges::beforeObstacle, x -> x.move(1));
        c.refused(ELEMENT, "faultyLink", Arms::rich, LatticeArm::faultyLink);
        c.refused(ELEMENT, "clearance", () -> Arms.arm(2, 1, 1), LatticeArm::clearance);
    }

    /** With a path, and with an obstacle where a move up would lead. */
    private static LatticeArm beforeObstacle() {
        LatticeArm x = Arms.arm(2, 2, 2);
        x.addObstacle(2, 2);
        x.planToPose(0);
        return x;
    }

    private void unchangedObstacles() {
        c.refused(INDEX, "addObstacle(11, 0)", Arms::rich, x -> x.addObstacle(11, 0));
        c.refused(ARGUMENT, "addObstacle(0, 0)", Arms::rich, x -> x.addObstacle(0, 0));
        c.refused(STATE, "addObstacle(9, 9) again", Arms::rich, x -> x.addObstacle(9, 9));
        c.refused(STATE, "addObstacle to sixty", Arms::crowded, x -> x.addObstacle(10, 10));
        c.refused(STATE, "addObstacle to sixty, again", Arms::crowded, x -> x.addObstacle(9, 9));
        c.refused(INDEX, "removeObstacle(0, -11)", Arms::rich, x -> x.removeObstacle(0, -11));
        c.refused(ELEMENT, "removeObstacle(9, 8)", Arms::rich, x -> x.removeObstacle(9, 8));
        c.refused(ELEMENT, "removeObstacle of sixty", Arms::crowded, x -> x.removeObstacle(10, 10));
        c.refused(INDEX, "isObstacle(-11, 0)", Arms::rich, x -> x.isObstacle(-11, 0));
        c.refused(INDEX, "obstacle(2)", Arms::rich, x -> x.obstacle(2, true));
        c.refused(INDEX, "linksAt(0, 11)", Arms::rich, x -> x.linksAt(0, 11));
    }

    private void unchangedPlans() {
        c.refused(INDEX, "poseValue(30, 0)", Arms::rich, x -> x.poseValue(30, 0));
        c.refused(INDEX, "poseValue(0, 2)", Arms::rich, x -> x.poseValue(0, 2));
        c.refused(INDEX, "isFreePose(30)", Arms::rich, x -> x.isFreePose(30));
        c.refused(INDEX, "posesAt(11, 0)", Arms::rich, x -> x.posesAt(11, 0));
        c.refused(STATE, "freePoses", Arms::tooMany, LatticeArm::freePoses);
        c.refused(STATE, "connected", Arms::tooMany, LatticeArm::connected);
        c.refused(STATE, "planToPose(7)", Arms::tooMany, x -> x.planToPose(7));
        c.refused(ELEMENT, "favorite", Arms::faulty, x -> x.favorite(true));
        c.refused(ELEMENT, "farthest", Arms::faulty, LatticeArm::farthest);
        c.refused("ArithmeticException", "freedom", Arms::stuck, LatticeArm::freedom);
        c.refused(INDEX, "planToPose(30)", Arms::rich, x -> x.planToPose(30));
        c.refused(ELEMENT, "planToPose(2)", Arms::faulty, x -> x.planToPose(2));
        c.refused(INDEX, "planToCell(11, 0)", Arms::rich, x -> x.planToCell(11, 0));
        c.refused(ELEMENT, "planToCell(0, 0)", Arms::rich, x -> x.planToCell(0, 0));
        c.refused(INDEX, "planSmooth(0, 11)", Arms::rich, x -> x.planSmooth(0, 11));
        c.refused(ELEMENT, "planSmooth(0, 0)", Arms::rich, x -> x.planSmooth(0, 0));
        c.refused(INDEX, "planNear(0, -11)", Arms::rich, x -> x.planNear(0, -11));
        c.refused(ELEMENT, "planNear(1, 1)", Arms::faulty, x -> x.planNear(1, 1));
        c.refused(ARGUMENT, "planToName(A)", Arms::rich, x -> x.planToName('A'));
        c.refused(UNSUPPORTED, "planToName(z)", Arms::rich, x -> x.planToName('z'));
        c.refused(UNSUPPORTED, "planToName(b)", Arms::long4, x -> x.planToName('b'));
        c.refused(ELEMENT, "planToName(b)", Arms::faulty, x -> x.planToName('b'));
    }

    private void unchangedRest() {
        c.refused(ELEMENT, "pathMove(4)", Arms::rich, x -> x.pathMove(4));
        c.refused(ELEMENT, "pathMove(-1)", Arms::rich, x -> x.pathMove(-1));
        c.refused(ARGUMENT, "follow(-1)", Arms::rich, x -> x.follow(-1));
        c.refused(ARGUMENT, "back(-1)", Arms::rich, x -> x.back(-1));
        c.refused(ELEMENT, "follow(1)", Arms::faulty, x -> x.follow(1));
        c.refused(ELEMENT, "back(1)", Arms::faulty, x -> x.back(1));
        c.refused(ARGUMENT, "bookmark(A)", Arms::rich, x -> x.bookmark('A'));
        c.refused(STATE, "bookmark of a seventh name", RefusalEdges::sixNames, x -> x.bookmark('a'));
        c.refused(ARGUMENT, "append of 31", Arms::rich, x -> x.append((char) 31));
        c.refused(STATE, "append to sixty", RefusalEdges::fullInput, x -> x.append(';'));
        c.refused(ELEMENT, "errorPosition", Arms::parted, LatticeArm::errorPosition);
        c.refused(ELEMENT, "undo", RefusalEdges::forgotten, LatticeArm::undo);
        c.refused(STATE, "restore", Arms::parted, LatticeArm::restore);
        readEmpties();
    }

    /** The documentation of read says otherwise of the input, and of the error position. */
    private void readEmpties() {
        LatticeArm other = Arms.rich("O7!", "O7,-7;!");
        c.argument("read of another text", other::read);
        c.due("read of another text, then the state", () -> Portrait.of(other), Portrait.of(Arms.rich("O7,-7;!", "")));
        LatticeArm again = Arms.rich("O7!", "O7,-7;O9,9;");
        c.state("read of an obstacle that is one", again::read);
        c.due("read of an obstacle that is one, then the state", () -> Portrait.of(again),
                Portrait.of(Arms.rich("O7!", "")));
    }

    private static LatticeArm sixNames() {
        LatticeArm x = Arms.rich();
        for (char name = 'u'; name <= 'x'; name++) {
            x.bookmark(name);
        }
        return x;
    }

    private static LatticeArm fullInput() {
        LatticeArm x = Arms.arm(1, 2, 2);
        x.planToPose(0);
        Arms.write(x, "O1,1;O1,2;O1,3;O1,4;O1,5;O1,6;O1,7;O1,8;O1,9;O2,0;O2,1;O2,2;");
        return x;
    }

    /** With links and a path, but without changes that are remembered. */
    private static LatticeArm forgotten() {
        LatticeArm x = Arms.rich();
        x.restore();
        x.planToPose(3);
        return x;
    }

    private void first() {
        firstOfLinks();
        firstOfPoses();
        firstOfCells();
        firstOfNames();
    }

    private void firstOfLinks() {
        c.refused(ARGUMENT, "addLink(0, 1, 1), four", Arms::long4, x -> x.addLink(0, 1, 1));
        c.refused(ARGUMENT, "addLink(1, 9, 1), four", Arms::long4, x -> x.addLink(1, 9, 1));
        c.refused(ARGUMENT, "addLink(1, 1, 9), four", Arms::long4, x -> x.addLink(1, 1, 9));
        c.refused(INDEX, "setLimits(2, 9, 9)", Arms::rich, x -> x.setLimits(2, 9, 9));
        c.refused(INDEX, "setLimits(-1, -1, -1)", Arms::rich, x -> x.setLimits(-1, -1, -1));
        c.refused(INDEX, "addObstacle(11, 0), sixty", Arms::crowded, x -> x.addObstacle(11, 0));
        c.refused(ARGUMENT, "addObstacle(0, 0), sixty", Arms::crowded, x -> x.addObstacle(0, 0));
        c.refused(INDEX, "removeObstacle(11, 0), which is none", Arms::rich, x -> x.removeObstacle(11, 0));
        c.refused(INDEX, "joint(2, 8)", Arms::rich, x -> x.joint(2, 8));
        c.refused(INDEX, "setValue(2, 9)", Arms::rich, x -> x.setValue(2, 9));
        c.refused(ARGUMENT, "move(4), not free", Arms::faulty, x -> x.move(4));
        c.refused(ARGUMENT, "move(-1), not free", Arms::faulty, x -> x.move(-1));
    }

    private void firstOfPoses() {
        c.refused(STATE, "favorite, not free", Arms::tooManyAndFaulty, x -> x.favorite(false));
        c.refused(STATE, "farthest, not free", Arms::tooManyAndFaulty, LatticeArm::farthest);
        c.refused(STATE, "freedom, no free pose", RefusalEdges::tooManyAndNoneFree, LatticeArm::freedom);
        c.refused(INDEX, "planToPose(5005), too many", Arms::tooMany, x -> x.planToPose(5005));
        c.refused(INDEX, "planToPose(-1), not free", Arms::faulty, x -> x.planToPose(-1));
        c.refused(STATE, "planToPose(0), not free", Arms::tooManyAndFaulty, x -> x.planToPose(0));
        c.refused(ARGUMENT, "follow(-1), no path", Arms::faulty, x -> x.follow(-1));
        c.refused(ARGUMENT, "back(-1), no path", Arms::faulty, x -> x.back(-1));
    }

    /** Link 0 cannot but lie on an obstacle. */
    private static LatticeArm tooManyAndNoneFree() {
        LatticeArm x = Arms.tooMany();
        for (int d = 0; d < 8; d++) {
            x.addObstacle(AreaEdges.STEP_X[d], AreaEdges.STEP_Y[d]);
        }
        return x;
    }

    private void firstOfCells() {
        c.refused(INDEX, "posesAt(11, 0), too many", Arms::tooMany, x -> x.posesAt(11, 0));
        c.refused(INDEX, "planToCell(11, 0), too many", Arms::tooMany, x -> x.planToCell(11, 0));
        c.refused(INDEX, "planToCell(11, 0), not free", Arms::faulty, x -> x.planToCell(11, 0));
        c.refused(STATE, "planToCell(1, 0), not free", Arms::tooManyAndFaulty, x -> x.planToCell(1, 0));
        c.refused(INDEX, "planSmooth(0, 11), too many", Arms::tooMany, x -> x.planSmooth(0, 11));
        c.refused(INDEX, "planSmooth(0, 11), not free", Arms::faulty, x -> x.planSmooth(0, 11));
        c.refused(STATE, "planSmooth(1, 0), not free", Arms::tooManyAndFaulty, x -> x.planSmooth(1, 0));
        c.refused(INDEX, "planNear(-11, 0), too many", Arms::tooMany, x -> x.planNear(-11, 0));
        c.refused(INDEX, "planNear(-11, 0), not free", Arms::faulty, x -> x.planNear(-11, 0));
        c.refused(STATE, "planNear(1, 0), not free", Arms::tooManyAndFaulty, x -> x.planNear(1, 0));
    }

    private void firstOfNames() {
        c.refused(ARGUMENT, "bookmark({), six names", RefusalEdges::sixNames, x -> x.bookmark('{'));
        c.refused(ARGUMENT, "planToName(`), too many", Arms::tooMany, x -> x.planToName('`'));
        c.refused(UNSUPPORTED, "planToName(a), too many", Arms::tooManyAndFaulty, x -> x.planToName('a'));
        c.refused(UNSUPPORTED, "planToName(a), not free", Arms::faulty, x -> x.planToName('a'));
        c.refused(STATE, "planToName(n), not free", RefusalEdges::tooManyWithName, x -> x.planToName('n'));
        c.refused(ARGUMENT, "append of 127 to sixty", RefusalEdges::fullInput, x -> x.append((char) 127));
        LatticeArm x = Arms.rich();
        Arms.write(x, "O0,0;L");
        c.argument("read of no text with the base", x::read);
        c.due("error position", x::errorPosition, 12);
    }

    private static LatticeArm tooManyWithName() {
        LatticeArm x = Arms.tooManyAndFaulty();
        x.bookmark('n');
        return x;
    }

    private void questions() {
        Checks.Act[] acts = {x -> x.count(0), x -> x.count(3), x -> x.joint(1, 0), x -> x.joint(0, 7),
            x -> x.isObstacle(9, 9), x -> x.obstacle(1, false), LatticeArm::moves, x -> x.tip(true), LatticeArm::fault,
            LatticeArm::faultyLink, x -> x.linksAt(0, 0), LatticeArm::poseNumber, LatticeArm::clearance,
            LatticeArm::winding, LatticeArm::freePoses, x -> x.poseValue(29, 1), x -> x.isFreePose(29),
            x -> x.posesAt(5, 5), LatticeArm::connected, LatticeArm::reachableCells, x -> x.favorite(true),
            LatticeArm::farthest, LatticeArm::groups, LatticeArm::freedom, LatticeArm::pathLength, x -> x.pathMove(3),
            LatticeArm::pathChanges, LatticeArm::pathCells, LatticeArm::errorPosition};
        String before = Portrait.of(Arms.rich());
        for (int i = 0; i < acts.length; i++) {
            LatticeArm x = Arms.rich();
            int k = i;
            Checks.answerOf(() -> acts[k].on(x));
            c.due("question " + i + ", then the state", () -> Portrait.of(x), before);
        }
    }
}
