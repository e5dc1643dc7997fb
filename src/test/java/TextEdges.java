/** The words of the description on texts and history. */
final class TextEdges {
    private final Checks c;

    private TextEdges(Checks checks) {
        c = checks;
    }

    static void run(Sentences s) {
        TextEdges t = new TextEdges(s.checks);
        s.description();
        s.test("The input is a buffer of at most 60 characters.", t::buffer);
        s.test("A text consists of one or several entries, each followed by a semicolon: L, a digit from 1 to 5, an "
                + "opening parenthesis, a limit, a comma, a limit and a closing parenthesis adds a link, where a limit "
                + "is a digit from 0 to 8, always with a minus sign before it for the lower limit, also before 0; O, a "
                + "coordinate, a comma and a coordinate adds an obstacle, where a coordinate is a number from 0 to 10 "
                + "with 1 or 2 digits without leading zeros, and an optional minus sign before it, also before 0.",
                t::text);
        s.test("The error position of a text that is not like this is the smallest index k such that no text of this "
                + "kind starts with the first k + 1 characters of it; if there is no such index, it is the length of "
                + "the text.", t::errorPosition);
        s.test("A change is a call of addLink, removeLink, setLimits, addObstacle, removeObstacle, setValue, move or read "
                + "that returns without an exception.", t::changes);
        s.test("The object remembers the links with limits and values, and the obstacles, as they are just before a "
                + "change, for at most 8 changes, of which the oldest one is forgotten for good when there would be more.",
                t::remembered);
        s.test("A call that changes nothing is a change, too. clear and restore forget all of them.",
                t::nothingAndForgotten);
    }

    private void buffer() {
        LatticeArm x = new LatticeArm();
        for (int i = 1; i <= 60; i++) {
            c.due("character " + i, () -> x.append(' '), i);
        }
        c.state("character 61", () -> x.append(' '));
        c.state("character 61 again", () -> x.append(' '));
        c.argument("all of them are read", x::read);
        c.due("the first one again", () -> x.append(' '), 1);
    }

    private void isText(String text, int entries) {
        LatticeArm x = new LatticeArm();
        c.due(text, () -> Arms.answerToText(x, text), entries);
        c.element(text + ", error position", x::errorPosition);
    }

    private void isNoText(String text, int position) {
        LatticeArm x = new LatticeArm();
        c.due(text, () -> Arms.answerToText(x, text), "IllegalArgumentException");
        c.due(text + ", error position", x::errorPosition, position);
        c.due(text + ", nothing is added", () -> x.count(0) + x.count(1), 0);
    }

    private void linkIs(String text, int length, int lower, int upper) {
        LatticeArm x = new LatticeArm();
        c.due(text, () -> Arms.answerToText(x, text), 1);
        c.due(text + ", links", () -> x.count(0), 1);
        c.due(text + ", length", () -> x.joint(0, 3), length);
        c.due(text + ", lower", () -> x.joint(0, 1), lower);
        c.due(text + ", upper", () -> x.joint(0, 2), upper);
        c.due(text + ", value", () -> x.joint(0, 0), 0);
    }

    private void obstacleIs(String text, int x, int y) {
        LatticeArm arm = new LatticeArm();
        c.due(text, () -> Arms.answerToText(arm, text), 1);
        c.due(text + ", obstacles", () -> arm.count(1), 1);
        c.due(text + ", x", () -> arm.obstacle(0, false), x);
        c.due(text + ", y", () -> arm.obstacle(0, true), y);
    }

    private void text() {
        isNoText("", 0);
        isText("O1,1;", 1);
        isText("O1,1;O1,2;", 2);
        isText("O1,1;L1(-1,1);O1,2;L1(-1,1);L1(-1,1);L1(-1,1);O1,3;", 7);
        linkIs("L1(-0,0);", 1, 0, 0);
        linkIs("L5(-8,8);", 5, -8, 8);
        linkIs("L2(-0,8);", 2, 0, 8);
        linkIs("L4(-8,0);", 4, -8, 0);
        linkIs("L3(-7,1);", 3, -7, 1);
        isNoText("L0(-1,1);", 1);
        isNoText("L6(-1,1);", 1);
        isNoText("L1(-9,1);", 4);
        isNoText("L1(-1,9);", 6);
        isNoText("L1(1,1);", 3);
        isNoText("L1(0,1);", 3);
        isNoText("L1(-1,-1);", 6);
        isNoText("L1(-1,-0);", 6);
        isNoText("L1(-10,1);", 5);
        isNoText("L1(-1,10);", 7);
        isNoText("L11(-1,1);", 2);
        isNoText("L-1(-1,1);", 1);
        obstacleIs("O0,1;", 0, 1);
        obstacleIs("O-0,-1;", 0, -1);
        obstacleIs("O1,0;", 1, 0);
        obstacleIs("O-1,-0;", -1, 0);
        obstacleIs("O9,-9;", 9, -9);
        obstacleIs("O10,-10;", 10, -10);
        obstacleIs("O-10,10;", -10, 10);
        isNoText("O11,0;", 2);
        isNoText("O0,11;", 4);
        isNoText("O-11,0;", 3);
        isNoText("O0,-11;", 5);
        isNoText("O100,0;", 3);
        isNoText("O0,100;", 5);
        isNoText("O00,1;", 2);
        isNoText("O01,1;", 2);
        isNoText("O1,01;", 4);
        isNoText("O-01,1;", 3);
        isNoText("O--1,1;", 2);
        isNoText("O+1,1;", 1);
        isNoText("O20,1;", 2);
    }

    private void errorPosition() {
        String[] texts = {"L3(-0,8);", "O-10,10;", "O0,-1;"};
        char[] never = {'!', ' ', 'l', 'o', '+', '.'};
        for (String text : texts) {
            for (int size = 0; size < text.length(); size++) {
                String start = text.substring(0, size);
                isNoText(start, size);
                for (char sign : never) {
                    isNoText(start + sign + text.substring(size), size);
                }
            }
            isNoText(text + ";", text.length());
            isNoText(text + " ", text.length());
            isNoText(text + text.charAt(0), text.length() + 1);
        }
        isNoText(" O1,1;", 0);
        isNoText("o1,1;", 0);
        isNoText("O1,1;x;", 5);
        isNoText("O1,1;O1,11;", 9);
        isNoText("L1(-1,1);L1(-1,1);L1(-1,1);L1(-1,1);L1(-1,1);L", 46);
        isNoText("O0,0;O0,0;O", 11);
        String sixty = "O1,1;O1,2;O1,3;O1,4;O1,5;O1,6;O1,7;O1,8;O1,9;O2,0;O2,1;O2,2;";
        isText(sixty, 12);
        isNoText(sixty.substring(0, 59), 59);
        isNoText(sixty.substring(0, 59) + "1", 59);
        isNoText(sixty.substring(0, 55) + "O10,1", 60);
    }

    /** Eight changes on an object that has none yet, each of them one that History tells. */
    private void changes() {
        LatticeArm x = new LatticeArm();
        Checks.Act[] acts = {y -> y.addLink(1, 8, 8), y -> y.addLink(1, 8, 8), y -> y.setLimits(0, 4, 4),
            y -> y.addObstacle(5, 5), y -> y.setValue(0, 2), y -> y.move(0), LatticeArm::removeLink,
            y -> y.removeObstacle(5, 5)};
        String[] before = new String[9];
        for (int i = 0; i < 8; i++) {
            before[i] = Portrait.sceneOf(x);
            acts[i].on(x);
        }
        for (int i = 7; i >= 0; i--) {
            int k = i;
            c.due("undo of change " + i, x::undo, k);
            c.due("the scene before change " + i, () -> Portrait.sceneOf(x), before[k]);
        }
        c.element("no more", x::undo);
        c.due("a text", () -> Arms.answerToText(x, "O1,1;L1(-1,1);"), 2);
        c.due("undo of the text", x::undo, 0);
        c.due("the scene before the text", () -> Portrait.sceneOf(x), before[0]);
        noChanges();
    }

    /** Calls that are no changes, whether they return or throw. */
    private void noChanges() {
        Checks.Act[] acts = {y -> y.follow(1), y -> y.back(1), y -> y.bookmark('b'), y -> y.append('O'),
            LatticeArm::save, y -> y.planToPose(3), y -> y.planToCell(5, 5), y -> y.planSmooth(5, 5),
            y -> y.planNear(1, 1), y -> y.planToName('b'), LatticeArm::errorPosition, LatticeArm::freePoses,
            LatticeArm::moves, y -> y.addLink(0, 0, 0), y -> y.setLimits(2, 0, 0), y -> y.setLimits(0, 9, 0),
            y -> y.addObstacle(9, 9), y -> y.removeObstacle(1, 1), y -> y.setValue(0, 9), y -> y.move(4)};
        for (int i = 0; i < acts.length; i++) {
            LatticeArm x = Arms.rich();
            int k = i;
            Checks.answerOf(() -> acts[k].on(x));
            x.undo();
            c.due("no change " + i + ", upper limit before the latest change", () -> x.joint(1, 2), 1);
            c.due("no change " + i + ", changes left", x::undo, 6);
        }
    }

    private void remembered() {
        LatticeArm x = Arms.arm(1, 8, 8);
        for (int value = 1; value <= 7; value++) {
            x.setValue(0, value);
        }
        c.due("eight changes, undo", x::undo, 7);
        x.setValue(0, 7);
        x.setValue(0, 8);
        c.due("nine changes, undo", x::undo, 7);
        for (int left = 6; left >= 0; left--) {
            int k = left;
            c.due("undo", x::undo, k);
            c.due("value", () -> x.joint(0, 0), k);
        }
        c.element("the ninth one is forgotten for good", x::undo);
        c.due("the link is still there", () -> x.count(0), 1);
        LatticeArm y = Arms.arm(1, 8, 8, 1, 8, 8);
        for (int i = 0; i < 17; i++) {
            y.setValue(i % 2, i / 2 - 8);
        }
        for (int left = 7; left >= 0; left--) {
            int k = left;
            c.due("after many changes, undo", y::undo, k);
        }
        c.due("value 0 before the last eight", () -> y.joint(0, 0), -4);
        c.due("value 1 before the last eight", () -> y.joint(1, 0), -5);
        LatticeArm z = Arms.arm(1, 4, 4);
        z.planToPose(8);
        z.follow(3);
        z.addObstacle(-1, 0);
        z.setValue(0, 0);
        z.undo();
        c.due("just before the change, behind what was followed", z::undo, 1);
        c.due("value", () -> z.joint(0, 0), 3);
        c.due("obstacles", () -> z.count(1), 0);
    }

    private void nothingAndForgotten() {
        LatticeArm x = Arms.arm(1, 8, 8);
        x.setValue(0, 0);
        x.setLimits(0, 8, 8);
        c.due("the same limits, undone", x::undo, 2);
        c.due("the same value, undone", x::undo, 1);
        c.due("links", () -> x.count(0), 1);
        LatticeArm y = Arms.rich();
        y.clear();
        c.element("after clear", y::undo);
        y.addLink(1, 0, 0);
        c.due("the first one after clear", y::undo, 0);
        c.element("none before clear", y::undo);
        LatticeArm z = Arms.rich();
        z.restore();
        c.element("after restore", z::undo);
        z.addLink(1, 0, 0);
        c.due("the first one after restore", z::undo, 0);
        c.element("none before restore", z::undo);
        LatticeArm w = new LatticeArm();
        w.clear();
        c.element("clear itself is no change", w::undo);
        w.addLink(1, 0, 0);
        c.state("restore that is refused", w::restore);
        c.due("it forgets nothing", w::undo, 0);
    }
}
