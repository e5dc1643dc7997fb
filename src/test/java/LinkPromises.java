/** The sentences of the promises 1 to 11: links and obstacles. */
final class LinkPromises {
    private static final String ARGUMENT = "IllegalArgumentException";
    private static final String STATE = "IllegalStateException";
    private static final String INDEX = "IndexOutOfBoundsException";
    private static final String ELEMENT = "NoSuchElementException";
    private static final int LEAST = Integer.MIN_VALUE;
    private static final int MOST = Integer.MAX_VALUE;
    static final int[][] OUTSIDE = {{11, 0}, {-11, 0}, {0, 11}, {0, -11}, {11, 11}, {-11, -11}, {LEAST, 0}, {MOST, 0},
        {0, LEAST}, {0, MOST}};

    private final Checks c;

    private LinkPromises(Checks checks) {
        c = checks;
    }

    static void run(Sentences s) {
        LinkPromises t = new LinkPromises(s.checks);
        s.promise(1);
        s.test("Creates an arm without links, in an area without obstacles.", t::newObject);
        s.promise(2);
        s.test("Removes all links and obstacles.", t::clearAll);
        s.test("The names, the input, the error position and what was saved stay.", t::clearStays);
        s.test("Returns the number of links that there were.", t::clearAnswer);
        t.addLinkSentences(s);
        t.removeLinkSentences(s);
        t.setLimitsSentences(s);
        t.addObstacleSentences(s);
        t.removeObstacleSentences(s);
        t.askSentences(s);
    }

    private void newObject() {
        LatticeArm x = new LatticeArm();
        c.due("links", () -> x.count(0), 0);
        c.due("obstacles", () -> x.count(1), 0);
        c.due("poses", () -> x.count(2), 1);
        c.due("lengths", () -> x.count(3), 0);
        c.index("joint", () -> x.joint(0, 0));
        c.index("obstacle", () -> x.obstacle(0, false));
        c.element("path", x::pathLength);
        c.element("changes", x::undo);
        c.state("saved", x::restore);
        c.element("error position", x::errorPosition);
        c.due("name", () -> x.planToName('a'), "UnsupportedOperationException");
        c.due("input", () -> x.append('O'), 1);
        LatticeArm rich = Arms.rich();
        LatticeArm y = new LatticeArm();
        c.due("beside another object", () -> y.count(0) + y.count(1) + rich.count(0) + rich.count(1), 4);
        c.due("like any other new one", () -> Portrait.of(new LatticeArm()), Portrait.of(y));
    }

    private void clearAll() {
        LatticeArm x = Arms.crowded();
        x.addLink(1, 0, 0);
        x.addLink(1, 0, 0);
        x.clear();
        c.due("links", () -> x.count(0), 0);
        c.due("obstacles", () -> x.count(1), 0);
        c.due("the first obstacle", () -> x.isObstacle(9, 9), false);
        c.due("the last obstacle", () -> x.isObstacle(5, -8), false);
        c.index("an obstacle", () -> x.obstacle(0, true));
        c.index("a joint", () -> x.joint(0, 0));
        c.due("room for links", () -> x.addLink(5, 8, 8), 0);
        c.due("room for obstacles", () -> x.addObstacle(9, 9), 1);
        c.due("the value is 0", () -> x.joint(0, 0), 0);
        LatticeArm all = Arms.rich();
        all.clear();
        for (int cell = 0; cell < 441; cell++) {
            int k = cell;
            c.due("cell " + cell, () -> all.isObstacle(k / 21 - 10, k % 21 - 10), false);
        }
        LatticeArm y = new LatticeArm();
        y.clear();
        c.due("of a new object", () -> Portrait.of(y), Portrait.of(new LatticeArm()));
    }

    private void clearStays() {
        LatticeArm x = Arms.rich();
        x.clear();
        c.due("the error position", x::errorPosition, 2);
        c.due("the input", x::read, 1);
        c.due("the obstacle of the input", () -> x.isObstacle(7, -7), true);
        c.due("what was saved", x::restore, 2);
        c.due("its value 0", () -> x.joint(0, 0), 1);
        c.due("its value 1", () -> x.joint(1, 0), 0);
        c.due("its obstacles", () -> x.count(1), 2);
        c.due("name b", () -> x.planToName('b'), 0);
        c.due("name q", () -> x.planToName('q'), 1);
        c.due("no other name", () -> x.bookmark('a'), 3);
    }

    private void clearAnswer() {
        LatticeArm x = new LatticeArm();
        c.due("none", x::clear, 0);
        for (int links = 1; links <= 4; links++) {
            for (int i = 0; i < links; i++) {
                x.addLink(5, 8, 8);
            }
            c.due(links + " links", x::clear, links);
            c.due("none again", x::clear, 0);
        }
        x.addObstacle(1, 1);
        c.due("an obstacle, no links", x::clear, 0);
    }

    private void addLinkSentences(Sentences s) {
        s.promise(3);
        s.test("Adds a link at the tip.", this::addLinkAtTip);
        s.test("The limits are given as numbers that are not negative.", () -> {
            LatticeArm x = Arms.arm(1, 3, 2);
            c.due("lower", () -> x.joint(0, 1), -3);
            c.due("upper", () -> x.joint(0, 2), 2);
            c.argument("negative lower", () -> x.addLink(1, -3, 2));
            c.argument("negative upper", () -> x.addLink(1, 3, -2));
        });
        s.test("length: the length, 1 to 5", () -> addLinkEnds(0, 1, 5, 3));
        s.test("down: the lower limit without its sign, 0 to 8", () -> addLinkEnds(1, 0, 8, 1));
        s.test("up: the upper limit, 0 to 8", () -> addLinkEnds(2, 0, 8, 2));
        s.test("Returns the number of the link.", () -> {
            LatticeArm x = new LatticeArm();
            for (int link = 0; link < 4; link++) {
                c.due("link", () -> x.addLink(1, 0, 0), link);
            }
            x.removeLink();
            c.due("the last one again", () -> x.addLink(1, 0, 0), 3);
            x.clear();
            c.due("the first one again", () -> x.addLink(1, 0, 0), 0);
        });
        s.test("Throws IllegalArgumentException if a number is out of range", this::addLinkRange);
        s.test("Throws IllegalStateException if there are 4 links", () -> {
            c.refused(STATE, "a fifth one", Arms::long4, x -> x.addLink(1, 0, 0));
            LatticeArm x = Arms.long4();
            x.removeLink();
            c.due("a fourth one", () -> x.addLink(1, 0, 0), 3);
            c.state("a fifth one", () -> x.addLink(5, 8, 8));
        });
    }

    private void addLinkAtTip() {
        LatticeArm x = Arms.arm(3, 8, 8);
        x.setValue(0, 3);
        x.addLink(2, 8, 8);
        c.due("x of its beginning", () -> x.joint(1, 5), -3);
        c.due("y of its beginning", () -> x.joint(1, 6), 3);
        c.due("x of the tip", () -> x.tip(false), -5);
        c.due("y of the tip", () -> x.tip(true), 5);
        c.due("value", () -> x.joint(1, 0), 0);
        c.due("value before it", () -> x.joint(0, 0), 3);
        x.addLink(5, 8, 8);
        x.addLink(5, 8, 8);
        c.due("at the corner, x", () -> x.joint(3, 5), -10);
        c.due("outside of the area, tip", () -> x.tip(false), -15);
        c.due("outside of the area, fault", x::fault, 1);
    }

    /** One number of addLink at its least and greatest value, and at the first ones beyond. */
    private void addLinkEnds(int place, int least, int greatest, int what) {
        int[] numbers = {3, 4, 5};
        for (int value : new int[] {least, greatest, least - 1, greatest + 1}) {
            LatticeArm x = new LatticeArm();
            int[] n = numbers.clone();
            n[place] = value;
            if (value < least || value > greatest) {
                c.argument("number " + value, () -> x.addLink(n[0], n[1], n[2]));
            } else {
                c.due("number " + value, () -> x.addLink(n[0], n[1], n[2]), 0);
                c.due("number " + value + ", then", () -> x.joint(0, what), place == 1 ? -value : value);
            }
        }
    }

    private void addLinkRange() {
        int[][] wrong = {{0, 1, 1}, {6, 1, 1}, {-1, 1, 1}, {LEAST, 1, 1}, {MOST, 1, 1}, {1, -1, 1}, {1, 9, 1},
            {1, LEAST, 1}, {1, MOST, 1}, {1, 1, -1}, {1, 1, 9}, {1, 1, LEAST}, {1, 1, MOST}, {0, 9, 9}};
        for (int[] n : wrong) {
            c.refused(ARGUMENT, "addLink " + n[0] + " " + n[1] + " " + n[2], Arms::rich,
                    x -> x.addLink(n[0], n[1], n[2]));
        }
        LatticeArm x = new LatticeArm();
        c.argument("as the first one", () -> x.addLink(0, 0, 0));
        c.due("least numbers", () -> x.addLink(1, 0, 0), 0);
        c.due("greatest numbers", () -> x.addLink(5, 8, 8), 1);
    }

    private void removeLinkSentences(Sentences s) {
        s.promise(4);
        s.test("Removes the last link.", () -> {
            LatticeArm x = Arms.arm(3, 2, 1, 2, 1, 2, 1, 0, 0);
            x.setValue(0, 1);
            x.setValue(1, -1);
            x.removeLink();
            c.index("the last one", () -> x.joint(2, 0));
            int[][] due = {{1, -2, 1, 3}, {-1, -1, 2, 2}};
            for (int i = 0; i < 8; i++) {
                int k = i;
                c.due("the others stay " + i, () -> x.joint(k / 4, k % 4), due[k / 4][k % 4]);
            }
            c.due("the tip", () -> x.tip(false), 5);
            x.removeLink();
            x.removeLink();
            c.due("the tip without links", () -> x.tip(false), 0);
            LatticeArm y = Arms.rich();
            y.removeLink();
            c.due("obstacles stay", () -> y.count(1), 2);
        });
        s.test("Returns the number of links that remain.", () -> {
            LatticeArm x = Arms.arm(1, 1, 1, 1, 1, 1, 1, 1, 1, 1, 1, 1);
            for (int left = 3; left >= 0; left--) {
                c.due("remain", x::removeLink, left);
            }
        });
        s.test("Throws IllegalStateException if there are no links", () -> {
            c.refused(STATE, "a new object", Arms::empty, LatticeArm::removeLink);
            c.refused(STATE, "after the last one", LinkPromises::removedAll, LatticeArm::removeLink);
            LatticeArm x = Arms.rich();
            x.clear();
            c.state("after clear", x::removeLink);
            x.addLink(1, 1, 1);
            c.due("one link", x::removeLink, 0);
        });
    }

    private static LatticeArm removedAll() {
        LatticeArm x = Arms.rich();
        x.removeLink();
        x.removeLink();
        x.planToPose(0);
        return x;
    }

    private void setLimitsSentences(Sentences s) {
        s.promise(5);
        s.test("Sets the limits of a joint.", () -> {
            LatticeArm x = Arms.arm(3, 2, 1, 2, 1, 2, 1, 8, 8);
            x.setValue(2, 3);
            x.setLimits(1, 8, 8);
            int[][] due = {{0, -2, 1, 3}, {0, -8, 8, 2}, {3, -8, 8, 1}};
            for (int i = 0; i < 12; i++) {
                int k = i;
                c.due("number " + i, () -> x.joint(k / 4, k % 4), due[k / 4][k % 4]);
            }
            c.due("poses", () -> x.count(2), 4 * 17 * 17);
        });
        s.test("If its value is not within them, it becomes the nearest one that is.", this::setLimitsNearest);
        s.test("joint: the number of the joint", () -> {
            LatticeArm x = Arms.long4();
            c.index("-1", () -> x.setLimits(-1, 1, 1));
            c.due("0", () -> x.setLimits(0, 1, 1), -1);
            c.due("3", () -> x.setLimits(3, 1, 1), 1);
            c.index("4", () -> x.setLimits(4, 1, 1));
            c.due("joint 0 alone", () -> x.joint(1, 1), -2);
        });
        s.test("down: the lower limit without its sign, 0 to 8", () -> {
            LatticeArm x = Arms.arm(1, 3, 3);
            c.argument("-1", () -> x.setLimits(0, -1, 3));
            c.argument("9", () -> x.setLimits(0, 9, 3));
            x.setLimits(0, 0, 3);
            c.due("0", () -> x.joint(0, 1), 0);
            x.setLimits(0, 8, 3);
            c.due("8", () -> x.joint(0, 1), -8);
            c.due("the upper one stays", () -> x.joint(0, 2), 3);
        });
        s.test("up: the upper limit, 0 to 8", () -> {
            LatticeArm x = Arms.arm(1, 3, 3);
            c.argument("-1", () -> x.setLimits(0, 3, -1));
            c.argument("9", () -> x.setLimits(0, 3, 9));
            x.setLimits(0, 3, 0);
            c.due("0", () -> x.joint(0, 2), 0);
            x.setLimits(0, 3, 8);
            c.due("8", () -> x.joint(0, 2), 8);
            c.due("the lower one stays", () -> x.joint(0, 1), -3);
        });
        s.test("Returns its value then.", () -> {
            LatticeArm x = Arms.arm(1, 8, 8);
            c.due("0", () -> x.setLimits(0, 0, 0), 0);
            x.setLimits(0, 8, 8);
            x.setValue(0, 8);
            c.due("8", () -> x.setLimits(0, 0, 8), 8);
            c.due("7", () -> x.setLimits(0, 0, 7), 7);
            c.due("0 again", () -> x.setLimits(0, 8, 0), 0);
            x.setValue(0, -8);
            c.due("-8", () -> x.setLimits(0, 8, 0), -8);
            c.due("-1", () -> x.setLimits(0, 1, 8), -1);
        });
        s.test("Throws IndexOutOfBoundsException if there is no such joint", () -> {
            c.refused(INDEX, "none", Arms::empty, x -> x.setLimits(0, 1, 1));
            for (int joint : new int[] {-1, 2, 3, 4, LEAST, MOST}) {
                c.refused(INDEX, "joint " + joint, Arms::rich, x -> x.setLimits(joint, 1, 1));
            }
        });
        s.test("Throws IllegalArgumentException if a limit is out of range", () -> {
            int[][] wrong = {{-1, 0}, {9, 0}, {0, -1}, {0, 9}, {LEAST, 0}, {MOST, 0}, {0, LEAST}, {0, MOST}, {9, -1}};
            for (int[] n : wrong) {
                c.refused(ARGUMENT, n[0] + " " + n[1], Arms::rich, x -> x.setLimits(1, n[0], n[1]));
            }
        });
    }

    private void setLimitsNearest() {
        for (int value = -8; value <= 8; value++) {
            LatticeArm x = Arms.arm(1, 8, 8);
            x.setValue(0, value);
            int nearest = value < -3 ? -3 : value > 2 ? 2 : value;
            c.due("value " + value, () -> x.setLimits(0, 3, 2), nearest);
            c.due("value " + value + ", then", () -> x.joint(0, 0), nearest);
            c.due("value " + value + ", only 0", () -> x.setLimits(0, 0, 0), 0);
        }
        LatticeArm x = Arms.arm(1, 8, 8, 1, 8, 8);
        x.setValue(0, 8);
        x.setValue(1, 8);
        x.setLimits(0, 8, 7);
        c.due("the value of another joint stays", () -> x.joint(1, 0), 8);
        x.setLimits(0, 8, 8);
        c.due("it does not come back", () -> x.joint(0, 0), 7);
    }

    private void addObstacleSentences(Sentences s) {
        s.promise(6);
        s.test("Adds an obstacle.", () -> {
            LatticeArm x = Arms.arm(2, 1, 1);
            x.addObstacle(2, 0);
            c.due("on the tip", () -> x.isObstacle(2, 0), true);
            c.due("fault then", x::fault, 2);
            x.addObstacle(10, -10);
            c.due("at the corner", () -> x.isObstacle(10, -10), true);
            c.due("not at another one", () -> x.isObstacle(-10, 10), false);
            c.due("free poses then", x::freePoses, 2);
        });
        s.test("Returns the number of obstacles then.", () -> {
            LatticeArm x = new LatticeArm();
            for (int i = 0; i < 60; i++) {
                int k = i;
                c.due("obstacle " + i, () -> x.addObstacle(k % 10 + 1, k / 10), i + 1);
            }
            x.removeObstacle(1, 0);
            c.due("sixty again", () -> x.addObstacle(-1, 0), 60);
        });
        s.test("Throws IndexOutOfBoundsException if the cell is outside of the area", () ->
                outside((x, a, b) -> x.addObstacle(a, b)));
        s.test("Throws IllegalArgumentException if the cell is the base", () -> {
            c.refused(ARGUMENT, "as the first one", Arms::empty, x -> x.addObstacle(0, 0));
            c.refused(ARGUMENT, "behind others", Arms::rich, x -> x.addObstacle(0, 0));
            LatticeArm x = new LatticeArm();
            c.due("x 0", () -> x.addObstacle(0, 1), 1);
            c.due("y 0", () -> x.addObstacle(1, 0), 2);
        });
        s.test("Throws IllegalStateException if there are 60 obstacles, or the cell is one", () -> {
            c.refused(STATE, "the first one", Arms::rich, x -> x.addObstacle(9, 9));
            c.refused(STATE, "the last one", Arms::rich, x -> x.addObstacle(-9, 8));
            c.refused(STATE, "sixty", Arms::crowded, x -> x.addObstacle(-10, 10));
            c.refused(STATE, "sixty, the last one", Arms::crowded, x -> x.addObstacle(5, -8));
            LatticeArm x = Arms.crowded();
            x.removeObstacle(9, 9);
            c.due("the sixtieth", () -> x.addObstacle(9, 9), 60);
            c.state("the sixty-first", () -> x.addObstacle(-10, 10));
            x.clear();
            c.due("after clear", () -> x.addObstacle(9, 9), 1);
        });
    }

    interface CellCall {
        Object on(LatticeArm x, int a, int b);
    }

    private void outside(CellCall call) {
        outside(c, call);
    }

    /** A call with cells outside of the area, on every side. */
    static void outside(Checks checks, CellCall call) {
        for (int[] cell : OUTSIDE) {
            checks.refused(INDEX, "cell " + cell[0] + " " + cell[1], Arms::rich, x -> call.on(x, cell[0], cell[1]));
        }
        for (int[] cell : new int[][] {{10, 10}, {-10, -10}, {10, -10}, {-10, 10}}) {
            LatticeArm x = Arms.rich();
            checks.due("inside", () -> Checks.answerOf(() -> call.on(x, cell[0], cell[1])).equals(INDEX), false);
        }
    }

    private void removeObstacleSentences(Sentences s) {
        s.promise(7);
        s.test("Removes an obstacle.", () -> {
            LatticeArm x = Arms.arm(2, 1, 1);
            x.addObstacle(2, 0);
            x.addObstacle(10, 10);
            x.removeObstacle(2, 0);
            c.due("it is none", () -> x.isObstacle(2, 0), false);
            c.due("the pose is free", x::fault, 0);
            c.due("the other one is one", () -> x.isObstacle(10, 10), true);
            c.due("the other one is the first, x", () -> x.obstacle(0, false), 10);
            x.removeObstacle(10, 10);
            c.index("there is none", () -> x.obstacle(0, false));
            c.due("free poses", x::freePoses, 3);
        });
        s.test("Returns the number of obstacles that remain.", () -> {
            LatticeArm x = Arms.crowded();
            c.due("of sixty", () -> x.removeObstacle(9, 9), 59);
            c.due("the second one", () -> x.removeObstacle(-9, 8), 58);
            for (int i = 57; i >= 0; i--) {
                int k = i;
                c.due("from the last one", () -> x.removeObstacle(k % 21 - 10, -10 + k / 21), k);
            }
        });
        s.test("Throws IndexOutOfBoundsException if the cell is outside of the area", () ->
                outside((x, a, b) -> x.removeObstacle(a, b)));
        s.test("Throws NoSuchElementException if the cell is no obstacle", () -> {
            c.refused(ELEMENT, "none at all", Arms::empty, x -> x.removeObstacle(1, 1));
            c.refused(ELEMENT, "the base", Arms::rich, x -> x.removeObstacle(0, 0));
            c.refused(ELEMENT, "swapped", Arms::rich, x -> x.removeObstacle(8, -9));
            c.refused(ELEMENT, "beside", Arms::rich, x -> x.removeObstacle(9, 10));
            LatticeArm x = Arms.rich();
            x.removeObstacle(9, 9);
            c.element("twice", () -> x.removeObstacle(9, 9));
        });
    }

    private void askSentences(Sentences s) {
        s.promise(8);
        s.test("what: 0 for links, 1 for obstacles, 2 for poses, 3 for the sum of the lengths of all links", this::counts);
        s.test("Throws IllegalArgumentException if what is not 0 to 3", () -> {
            for (int what : new int[] {-1, 4, LEAST, MOST}) {
                c.refused(ARGUMENT, "what " + what, Arms::rich, x -> x.count(what));
                c.refused(ARGUMENT, "what " + what + ", nothing there", Arms::empty, x -> x.count(what));
            }
        });
        s.promise(9);
        s.test("joint: the number of the joint", () -> {
            LatticeArm x = Arms.arm(1, 0, 0, 2, 0, 0, 3, 0, 0, 4, 0, 0);
            for (int k = 0; k < 4; k++) {
                int joint = k;
                c.due("joint " + k, () -> x.joint(joint, 3), k + 1);
            }
        });
        s.test("what: 0 for the value, 1 for the lower limit, 2 for the upper limit, 3 for the length, 4 for the direction, "
                + "5 and 6 for the coordinates x and y of the cell where the link begins, 7 for the value modulo 8, from "
                + "0 to 7", this::jointNumbers);
        s.test("Throws IndexOutOfBoundsException if there is no such joint", () -> {
            c.refused(INDEX, "none", Arms::empty, x -> x.joint(0, 0));
            for (int joint : new int[] {-1, 2, 3, 4, LEAST, MOST}) {
                c.refused(INDEX, "joint " + joint, Arms::rich, x -> x.joint(joint, 0));
            }
            c.refused(INDEX, "joint 4 of four", Arms::long4, x -> x.joint(4, 0));
        });
        s.test("Throws IllegalArgumentException if what is not 0 to 7", () -> {
            for (int what : new int[] {-1, 8, LEAST, MOST}) {
                c.refused(ARGUMENT, "what " + what, Arms::rich, x -> x.joint(1, what));
            }
        });
        s.promise(10);
        s.test("Returns whether a cell is an obstacle.", this::whole);
        s.test("Returns true if it is.", () -> {
            LatticeArm x = Arms.crowded();
            c.due("the first one", () -> x.isObstacle(9, 9), true);
            c.due("the last one", () -> x.isObstacle(5, -8), true);
            c.due("no one", () -> x.isObstacle(6, -8), false);
            c.due("the base", () -> x.isObstacle(0, 0), false);
        });
        s.test("Throws IndexOutOfBoundsException if the cell is outside of the area", () ->
                outside((x, a, b) -> x.isObstacle(a, b)));
        s.promise(11);
        s.test("index: the index in the order in which the obstacles were added, from 0", this::obstacleOrder);
        s.test("isY: true for y, false for x", () -> {
            LatticeArm x = new LatticeArm();
            x.addObstacle(-10, 10);
            c.due("x", () -> x.obstacle(0, false), -10);
            c.due("y", () -> x.obstacle(0, true), 10);
        });
        s.test("Throws IndexOutOfBoundsException if there is no such obstacle", () -> {
            c.refused(INDEX, "none", Arms::empty, x -> x.obstacle(0, true));
            for (int index : new int[] {-1, 2, 59, 60, LEAST, MOST}) {
                c.refused(INDEX, "index " + index, Arms::rich, x -> x.obstacle(index, false));
            }
            c.refused(INDEX, "index 60 of sixty", Arms::crowded, x -> x.obstacle(60, true));
        });
    }

    private void counts() {
        countsAre("nothing", Arms.empty(), 0, 0, 1, 0);
        countsAre("the shortest", Arms.arm(1, 0, 0), 1, 0, 1, 1);
        countsAre("rich", Arms.rich(), 2, 2, 30, 5);
        LatticeArm x = Arms.crowded();
        x.clear();
        countsAre("after clear", x, 0, 0, 1, 0);
        LatticeArm most = Arms.crowded();
        most.removeLink();
        most.removeLink();
        for (int i = 0; i < 4; i++) {
            most.addLink(5, 8, 8);
        }
        countsAre("the most", most, 4, 60, 83521, 20);
    }

    private void countsAre(String what, LatticeArm x, int... due) {
        for (int k = 0; k < 4; k++) {
            int w = k;
            c.due(what + " " + k, () -> x.count(w), due[k]);
        }
    }

    private void jointNumbers() {
        LatticeArm x = Arms.arm(5, 8, 8, 5, 8, 8, 5, 8, 0, 1, 0, 8);
        int[][] values = {{-8, -1, -7, 8}, {8, 7, 0, 0}, {-3, 0, 0, 0}};
        int[][] modulo = {{0, 7, 1, 0}, {0, 7, 0, 0}, {5, 0, 0, 0}};
        int[][] direction = {{0, 7, 0, 0}, {0, 7, 7, 7}, {5, 5, 5, 5}};
        int[][] beginX = {{0, 5, 10, 15}, {0, 5, 10, 15}, {0, -5, -10, -15}};
        int[][] beginY = {{0, 0, -5, -5}, {0, 0, -5, -10}, {0, -5, -10, -15}};
        int[] lower = {-8, -8, -8, 0};
        int[] upper = {8, 8, 0, 8};
        int[] length = {5, 5, 5, 1};
        for (int i = 0; i < values.length; i++) {
            for (int k = 0; k < 4; k++) {
                x.setValue(k, values[i][k]);
            }
            for (int k = 0; k < 4; k++) {
                int[] due = {values[i][k], lower[k], upper[k], length[k], direction[i][k], beginX[i][k], beginY[i][k],
                    modulo[i][k]};
                for (int what = 0; what < 8; what++) {
                    int joint = k;
                    int w = what;
                    c.due("case " + i + " joint " + k + " what " + what, () -> x.joint(joint, w), due[w]);
                }
            }
        }
    }

    /** Every cell of the area with a pattern of obstacles, a row of cells at a time. */
    private void whole() {
        for (int y = -10; y <= 10; y++) {
            LatticeArm arm = new LatticeArm();
            int row = y;
            for (int x = -10; x <= 10; x += 3) {
                arm.addObstacle(x, y);
            }
            for (int x = -10; x <= 10; x++) {
                int column = x;
                c.due("cell " + x + " " + y, () -> arm.isObstacle(column, row), (x + 10) % 3 == 0);
                if (y < 10) {
                    c.due("cell " + x + " " + (y + 1), () -> arm.isObstacle(column, row + 1), false);
                }
            }
        }
    }

    private void obstacleOrder() {
        LatticeArm x = new LatticeArm();
        for (int i = 0; i < 60; i++) {
            x.addObstacle(10 - i % 20, 10 - i / 20);
        }
        c.due("the first one", () -> x.obstacle(0, false), 10);
        c.due("index 59", () -> x.obstacle(59, false), -9);
        c.due("index 59, y", () -> x.obstacle(59, true), 8);
        x.removeObstacle(10, 10);
        c.due("the first one then", () -> x.obstacle(0, false), 9);
        c.due("the last one then", () -> x.obstacle(58, false), -9);
        c.index("index 59 then", () -> x.obstacle(59, false));
        x.addObstacle(10, 10);
        c.due("the same one again is the last one", () -> x.obstacle(59, false), 10);
        x.removeObstacle(-9, 8);
        c.due("the one behind the last but one", () -> x.obstacle(58, false), 10);
        c.due("the first one stays", () -> x.obstacle(0, false), 9);
    }
}
