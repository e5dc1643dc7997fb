/** Promises 1 to 11: links and obstacles. */
public final class LinksTest {
    private static final Checks C = new Checks();

    public static void main(String[] args) {
        newObject();
        clear();
        clearKeeps();
        addLink();
        removeLink();
        setLimits();
        addObstacle();
        removeObstacle();
        count();
        joint();
        isObstacle();
        obstacle();
        C.end();
    }

    private static void newObject() {
        LatticeArm x = new LatticeArm();
        for (int what = 0; what < 4; what++) {
            int w = what;
            C.due("1 count " + w, () -> x.count(w), w == 2 ? 1 : 0);
        }
        C.due("1 tip x", () -> x.tip(false), 0);
        C.due("1 tip y", () -> x.tip(true), 0);
        C.due("1 fault", x::fault, 0);
        C.due("1 moves", x::moves, 0);
        C.due("1 pose", x::poseNumber, 0);
        C.due("1 winding", x::winding, 0);
        C.due("1 free", x::freePoses, 1);
        C.due("1 at base", () -> x.posesAt(0, 0), 1);
        C.due("1 at another", () -> x.posesAt(1, 0), 0);
        C.due("1 groups", x::groups, 1);
        C.due("1 freedom", x::freedom, 0.0);
        C.element("1 path", x::pathLength);
        C.element("1 undo", x::undo);
        C.element("1 error", x::errorPosition);
        C.state("1 restore", x::restore);
        for (int cx = -10; cx <= 10; cx++) {
            LatticeArm another = new LatticeArm();
            for (int cy = -10; cy <= 10; cy++) {
                int a = cx;
                int b = cy;
                C.due("1 obstacle", () -> another.isObstacle(a, b), false);
                C.due("1 links at", () -> another.linksAt(a, b), 0);
            }
        }
    }

    private static void clear() {
        LatticeArm x = new LatticeArm();
        C.due("2 empty", x::clear, 0);
        x.addLink(2, 1, 1);
        x.addLink(3, 1, 1);
        x.addObstacle(4, 4);
        x.planToPose(4);
        C.due("2 two", x::clear, 2);
        C.due("2 links", () -> x.count(0), 0);
        C.due("2 obstacles", () -> x.count(1), 0);
        C.due("2 isObstacle", () -> x.isObstacle(4, 4), false);
        C.element("2 path", x::pathLength);
        C.element("2 undo", x::undo);
        C.due("2 again", x::clear, 0);
        C.due("2 free poses", x::freePoses, 1);
        C.due("2 obstacle again", () -> x.addObstacle(4, 4), 1);
    }

    private static void clearKeeps() {
        LatticeArm x = new LatticeArm();
        x.addLink(1, 2, 2);
        x.setValue(0, 2);
        x.bookmark('q');
        x.save();
        x.append('x');
        C.argument("2 bad text", x::read);
        x.append('O');
        x.clear();
        C.due("2 input stays", () -> x.append('1'), 2);
        C.due("2 error position stays", x::errorPosition, 0);
        C.due("2 saved stays", x::restore, 1);
        C.due("2 value restored", () -> x.joint(0, 0), 2);
        x.setValue(0, 0);
        C.due("2 name stays", () -> x.planToName('q'), 2);
    }

    private static void addLink() {
        LatticeArm x = new LatticeArm();
        C.argument("3 length 0", () -> x.addLink(0, 1, 1));
        C.argument("3 length 6", () -> x.addLink(6, 1, 1));
        C.argument("3 length -1", () -> x.addLink(-1, 1, 1));
        C.argument("3 down -1", () -> x.addLink(1, -1, 1));
        C.argument("3 down 9", () -> x.addLink(1, 9, 1));
        C.argument("3 up -1", () -> x.addLink(1, 1, -1));
        C.argument("3 up 9", () -> x.addLink(1, 1, 9));
        C.argument("3 far out", () -> x.addLink(Integer.MIN_VALUE, Integer.MAX_VALUE, 0));
        C.element("3 wrong calls are no changes", x::undo);
        C.due("3 first", () -> x.addLink(5, 8, 0), 0);
        C.due("3 lower", () -> x.joint(0, 1), -8);
        C.due("3 upper", () -> x.joint(0, 2), 0);
        C.due("3 value", () -> x.joint(0, 0), 0);
        C.due("3 length", () -> x.joint(0, 3), 5);
        C.due("3 second", () -> x.addLink(1, 0, 8), 1);
        C.due("3 third", () -> x.addLink(1, 0, 0), 2);
        C.due("3 fourth", () -> x.addLink(1, 0, 0), 3);
        C.due("3 tip", () -> x.tip(false), 8);
        C.state("3 fifth", () -> x.addLink(1, 0, 0));
        C.argument("3 fifth out of range", () -> x.addLink(1, 0, 9));
        C.due("3 still four", () -> x.count(0), 4);
        LatticeArm y = new LatticeArm();
        y.addLink(1, 2, 2);
        y.setValue(0, 2);
        y.removeLink();
        y.addLink(1, 2, 2);
        C.due("3 value is first 0", () -> y.joint(0, 0), 0);
        y.planToPose(2);
        y.addLink(1, 0, 0);
        C.element("3 no path then", y::pathLength);
    }

    private static void removeLink() {
        LatticeArm x = new LatticeArm();
        C.state("4 none", x::removeLink);
        x.addLink(1, 1, 1);
        x.addLink(2, 2, 2);
        x.addLink(3, 3, 3);
        x.setValue(1, 2);
        x.planToPose(0);
        C.due("4 two remain", x::removeLink, 2);
        C.element("4 no path then", x::pathLength);
        C.index("4 the last is gone", () -> x.joint(2, 0));
        C.due("4 the others stay", () -> x.joint(1, 0), 2);
        C.due("4 one remains", x::removeLink, 1);
        C.due("4 none remains", x::removeLink, 0);
        C.state("4 none again", x::removeLink);
        C.due("4 undo", x::undo, 6);
        C.due("4 back", () -> x.count(0), 1);
    }

    private static void setLimits() {
        LatticeArm x = new LatticeArm();
        C.index("5 no joint", () -> x.setLimits(0, 0, 0));
        C.index("5 no joint first", () -> x.setLimits(0, 9, 9));
        x.addLink(1, 8, 8);
        C.index("5 joint 1", () -> x.setLimits(1, 0, 0));
        C.index("5 joint -1", () -> x.setLimits(-1, 0, 0));
        C.argument("5 down 9", () -> x.setLimits(0, 9, 0));
        C.argument("5 down -1", () -> x.setLimits(0, -1, 0));
        C.argument("5 up 9", () -> x.setLimits(0, 0, 9));
        C.argument("5 up -1", () -> x.setLimits(0, 0, -1));
        x.setValue(0, 7);
        C.due("5 within", () -> x.setLimits(0, 3, 7), 7);
        C.due("5 lower", () -> x.joint(0, 1), -3);
        C.due("5 upper", () -> x.joint(0, 2), 7);
        C.due("5 poses", () -> x.count(2), 11);
        C.due("5 down to the upper", () -> x.setLimits(0, 8, 5), 5);
        C.due("5 value then", () -> x.joint(0, 0), 5);
        x.setValue(0, -8);
        C.due("5 up to the lower", () -> x.setLimits(0, 2, 8), -2);
        x.planToPose(0);
        C.due("5 to 0", () -> x.setLimits(0, 0, 0), 0);
        C.element("5 no path then", x::pathLength);
        C.due("5 one free pose", x::freePoses, 1);
        x.undo();
        C.due("5 undone", () -> x.joint(0, 0), -2);
        C.due("5 undone lower", () -> x.joint(0, 1), -2);
    }

    private static void addObstacle() {
        LatticeArm x = new LatticeArm();
        C.index("6 x 11", () -> x.addObstacle(11, 0));
        C.index("6 x -11", () -> x.addObstacle(-11, 0));
        C.index("6 y 11", () -> x.addObstacle(0, 11));
        C.index("6 y -11", () -> x.addObstacle(0, -11));
        C.index("6 far", () -> x.addObstacle(Integer.MIN_VALUE, Integer.MAX_VALUE));
        C.argument("6 base", () -> x.addObstacle(0, 0));
        C.due("6 corner", () -> x.addObstacle(10, -10), 1);
        C.due("6 other corner", () -> x.addObstacle(-10, 10), 2);
        C.state("6 twice", () -> x.addObstacle(10, -10));
        C.due("6 beside the base", () -> x.addObstacle(0, 1), 3);
        for (int i = 3; i < 60; i++) {
            int k = i;
            C.due("6 more", () -> x.addObstacle(k % 20 - 9, 3 + k / 20), k + 1);
        }
        C.state("6 full", () -> x.addObstacle(1, 1));
        C.argument("6 full, base", () -> x.addObstacle(0, 0));
        C.index("6 full, outside", () -> x.addObstacle(0, 11));
        C.due("6 sixty", () -> x.count(1), 60);
        x.planToPose(0);
        x.removeObstacle(0, 1);
        C.element("6 no path", x::pathLength);
        C.due("6 room again", () -> x.addObstacle(1, 1), 60);
        x.planToPose(0);
        x.undo();
        x.planToPose(0);
        x.addObstacle(1, 1);
        C.element("6 no path then", x::pathLength);
    }

    private static void removeObstacle() {
        LatticeArm x = new LatticeArm();
        C.index("7 outside", () -> x.removeObstacle(-11, 0));
        C.index("7 outside y", () -> x.removeObstacle(0, 11));
        C.element("7 none", () -> x.removeObstacle(3, 3));
        C.element("7 base", () -> x.removeObstacle(0, 0));
        x.addObstacle(3, 3);
        x.addObstacle(3, 4);
        x.addObstacle(5, 3);
        C.element("7 another", () -> x.removeObstacle(4, 3));
        C.due("7 middle", () -> x.removeObstacle(3, 4), 2);
        C.due("7 is none", () -> x.isObstacle(3, 4), false);
        C.due("7 is one", () -> x.isObstacle(3, 3), true);
        C.due("7 order", () -> x.obstacle(1, false), 5);
        C.due("7 order, y", () -> x.obstacle(1, true), 3);
        C.due("7 first", () -> x.obstacle(0, false), 3);
        C.index("7 two left", () -> x.obstacle(2, false));
        C.element("7 gone", () -> x.removeObstacle(3, 4));
        C.due("7 again", () -> x.addObstacle(3, 4), 3);
        C.due("7 at the end", () -> x.obstacle(2, true), 4);
        C.due("7 undo", x::undo, 4);
        C.due("7 undo", x::undo, 3);
        C.due("7 order is back", () -> x.obstacle(1, true), 4);
        C.due("7 last is back", () -> x.obstacle(2, false), 5);
    }

    private static void count() {
        LatticeArm x = new LatticeArm();
        C.argument("8 -1", () -> x.count(-1));
        C.argument("8 4", () -> x.count(4));
        C.argument("8 far", () -> x.count(Integer.MAX_VALUE));
        x.addLink(5, 8, 8);
        x.addLink(4, 1, 2);
        x.addObstacle(1, 5);
        C.due("8 links", () -> x.count(0), 2);
        C.due("8 obstacles", () -> x.count(1), 1);
        C.due("8 poses", () -> x.count(2), 68);
        C.due("8 lengths", () -> x.count(3), 9);
        x.addLink(5, 8, 8);
        x.addLink(5, 8, 8);
        x.setLimits(1, 8, 8);
        C.due("8 all poses", () -> x.count(2), 83521);
        C.due("8 all lengths", () -> x.count(3), 19);
    }

    private static void joint() {
        LatticeArm x = new LatticeArm();
        C.index("9 none", () -> x.joint(0, 0));
        C.index("9 none first", () -> x.joint(0, 8));
        x.addLink(5, 8, 8);
        x.addLink(4, 3, 2);
        x.addLink(5, 1, 8);
        C.index("9 joint 3", () -> x.joint(3, 0));
        C.index("9 joint -1", () -> x.joint(-1, 0));
        C.argument("9 what 8", () -> x.joint(2, 8));
        C.argument("9 what -1", () -> x.joint(2, -1));
        x.setValue(0, -3);
        x.setValue(1, -3);
        x.setValue(2, 8);
        int[][] due = {{-3, -8, 8, 5, 5, 0, 0, 5}, {-3, -3, 2, 4, 2, -5, -5, 5}, {8, -1, 8, 5, 2, -5, -1, 0}};
        for (int j = 0; j < 3; j++) {
            for (int w = 0; w < 8; w++) {
                int a = j;
                int b = w;
                C.due("9 joint " + j + " " + w, () -> x.joint(a, b), due[j][w]);
            }
        }
        x.setValue(1, 0);
        x.setValue(2, 0);
        C.due("9 begins outside of the area not yet", () -> x.joint(2, 5), -9);
        x.setLimits(1, 8, 8);
        x.addLink(5, 0, 0);
        C.due("9 begins outside of the area", () -> x.joint(3, 5), -14);
        C.due("9 begins outside of the area, y", () -> x.joint(3, 6), -14);
        x.setValue(0, -8);
        C.due("9 -8 modulo 8", () -> x.joint(0, 7), 0);
        C.due("9 direction of -8", () -> x.joint(0, 4), 0);
    }

    private static void isObstacle() {
        LatticeArm x = new LatticeArm();
        C.index("10 x 11", () -> x.isObstacle(11, 0));
        C.index("10 x -11", () -> x.isObstacle(-11, 0));
        C.index("10 y 11", () -> x.isObstacle(0, 11));
        C.index("10 y -11", () -> x.isObstacle(0, -11));
        C.index("10 far", () -> x.isObstacle(0, Integer.MIN_VALUE));
        x.addObstacle(-10, -10);
        x.addObstacle(10, 3);
        C.due("10 one", () -> x.isObstacle(-10, -10), true);
        C.due("10 other", () -> x.isObstacle(10, 3), true);
        C.due("10 swapped", () -> x.isObstacle(3, 10), false);
        C.due("10 base", () -> x.isObstacle(0, 0), false);
    }

    private static void obstacle() {
        LatticeArm x = new LatticeArm();
        C.index("11 none", () -> x.obstacle(0, false));
        x.addObstacle(7, -2);
        x.addObstacle(-7, 2);
        C.due("11 x", () -> x.obstacle(0, false), 7);
        C.due("11 y", () -> x.obstacle(0, true), -2);
        C.due("11 second x", () -> x.obstacle(1, false), -7);
        C.due("11 second y", () -> x.obstacle(1, true), 2);
        C.index("11 index 2", () -> x.obstacle(2, true));
        C.index("11 index -1", () -> x.obstacle(-1, true));
        C.index("11 index 60", () -> x.obstacle(60, false));
    }
}
