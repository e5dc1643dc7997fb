/** Promises 42 to 49: bookmarks, texts, history and saving. */
public final class TextTest {
    private static final Checks C = new Checks();

    public static void main(String[] args) {
        bookmark();
        bookmarkStays();
        planToName();
        planToNameRefused();
        append();
        read();
        readRefused();
        errorPositions();
        everyPrefix();
        errorPositionStays();
        undo();
        undoLimit();
        undoEach();
        save();
        restore();
        C.end();
    }

    private static void bookmark() {
        LatticeArm x = Arms.arm(1, 2, 2);
        C.argument("42 code 96", () -> x.bookmark((char) 96));
        C.argument("42 code 123", () -> x.bookmark((char) 123));
        C.argument("42 code 0", () -> x.bookmark((char) 0));
        C.argument("42 code 65535", () -> x.bookmark((char) 65535));
        C.argument("42 A", () -> x.bookmark('A'));
        C.due("42 a", () -> x.bookmark('a'), 1);
        C.due("42 a again", () -> x.bookmark('a'), 1);
        C.due("42 z", () -> x.bookmark('z'), 2);
        C.due("42 m", () -> x.bookmark('m'), 3);
        C.due("42 n", () -> x.bookmark('n'), 4);
        C.due("42 o", () -> x.bookmark('o'), 5);
        C.due("42 p", () -> x.bookmark('p'), 6);
        C.state("42 q", () -> x.bookmark('q'));
        C.argument("42 range first", () -> x.bookmark('{'));
        x.setValue(0, 1);
        C.due("42 in place", () -> x.bookmark('m'), 6);
        C.due("42 new pose", () -> x.planToName('m'), 0);
        C.due("42 old pose", () -> x.planToName('n'), 1);
        C.due("42 not kept", () -> x.planToName('q'), "UnsupportedOperationException");
        C.due("42 is no change", x::undo, 1);
    }

    private static void bookmarkStays() {
        LatticeArm x = Arms.arm(1, 2, 2);
        x.save();
        x.setValue(0, 2);
        x.planToPose(0);
        x.bookmark('b');
        C.due("42 the path stays", x::pathLength, 4);
        x.undo();
        C.due("42 at undo", () -> x.planToName('b'), 2);
        x.setValue(0, 1);
        C.due("42 at a change", () -> x.planToName('b'), 1);
        x.restore();
        C.due("42 at restore", () -> x.planToName('b'), 2);
        x.clear();
        x.addLink(5, 2, 2);
        C.due("42 at clear", () -> x.planToName('b'), 2);
        x.bookmark('c');
        x.setValue(0, 1);
        x.save();
        x.bookmark('c');
        x.restore();
        C.due("42 is not saved", () -> x.planToName('c'), 0);
        LatticeArm y = Arms.parted();
        C.due("42 a pose that is not free", () -> y.bookmark('x'), 1);
        y.setValue(0, 1);
        C.element("43 to it", () -> y.planToName('x'));
    }

    private static void planToName() {
        LatticeArm none = new LatticeArm();
        none.bookmark('k');
        C.due("43 no links", () -> none.planToName('k'), 0);
        C.due("43 no links, path", none::pathLength, 0);
        none.addLink(1, 0, 0);
        C.due("43 no values", () -> none.planToName('k'), "UnsupportedOperationException");
        LatticeArm x = Arms.arm(2, 3, 3, 1, 2, 2);
        x.setValue(0, -2);
        x.setValue(1, 1);
        x.bookmark('h');
        x.setValue(0, 1);
        x.setValue(1, -1);
        C.due("43 moves", () -> x.planToName('h'), 5);
        int[] moves = {0, 0, 0, 3, 3};
        for (int i = 0; i < 5; i++) {
            int k = i;
            C.due("43 move " + i, () -> x.pathMove(k), moves[i]);
        }
        x.follow(5);
        C.due("43 value 0", () -> x.joint(0, 0), -2);
        C.due("43 value 1", () -> x.joint(1, 0), 1);
        x.setLimits(0, 2, 8);
        x.setLimits(1, 0, 1);
        C.due("43 other limits", () -> x.planToName('h'), 0);
    }

    private static void planToNameRefused() {
        LatticeArm x = Arms.arm(2, 3, 3);
        C.argument("43 code 96", () -> x.planToName('`'));
        C.argument("43 code 123", () -> x.planToName('{'));
        C.due("43 not used", () -> x.planToName('a'), "UnsupportedOperationException");
        x.setValue(0, 3);
        x.bookmark('a');
        x.setLimits(0, 3, 2);
        C.due("43 above", () -> x.planToName('a'), "UnsupportedOperationException");
        x.setValue(0, -3);
        x.bookmark('b');
        x.setLimits(0, 2, 3);
        C.due("43 below", () -> x.planToName('b'), "UnsupportedOperationException");
        C.due("43 within again", () -> x.planToName('a'), 5);
        x.addLink(1, 1, 1);
        C.due("43 another link", () -> x.planToName('a'), "UnsupportedOperationException");
        x.bookmark('c');
        x.removeLink();
        C.due("43 a link less", () -> x.planToName('c'), "UnsupportedOperationException");
        x.addObstacle(0, 1);
        C.element("43 no path", () -> x.planToName('a'));
        LatticeArm y = Arms.arm(1, 8, 8, 1, 8, 8, 1, 8, 8, 1, 1, 1);
        C.due("43 not used first", () -> y.planToName('a'), "UnsupportedOperationException");
        y.bookmark('a');
        C.state("43 too many", () -> y.planToName('a'));
        C.argument("43 range first", () -> y.planToName(' '));
    }

    private static void append() {
        LatticeArm x = new LatticeArm();
        C.argument("44 code 31", () -> x.append((char) 31));
        C.argument("44 code 127", () -> x.append((char) 127));
        C.argument("44 code 0", () -> x.append((char) 0));
        C.argument("44 code 65535", () -> x.append((char) 65535));
        C.due("44 blank", () -> x.append(' '), 1);
        C.due("44 tilde", () -> x.append('~'), 2);
        for (int i = 3; i <= 60; i++) {
            C.due("44 more", () -> x.append('O'), i);
        }
        C.state("44 full", () -> x.append('O'));
        C.argument("44 full, out of range", () -> x.append((char) 127));
        C.argument("45 no text", x::read);
        C.due("46 position", x::errorPosition, 0);
        C.due("44 empty again", () -> x.append('O'), 1);
        C.element("44 is no change", x::undo);
    }

    private static void read() {
        LatticeArm x = new LatticeArm();
        Arms.write(x, "L5(-8,0);O-10,10;O0,-1;L1(-0,8);O1,-0;");
        C.due("45 five", x::read, 5);
        C.due("45 links", () -> x.count(0), 2);
        int[] due = {0, -8, 0, 5};
        for (int w = 0; w < 4; w++) {
            int k = w;
            C.due("45 link 0 " + w, () -> x.joint(0, k), due[w]);
        }
        C.due("45 lower of link 1", () -> x.joint(1, 1), 0);
        C.due("45 upper of link 1", () -> x.joint(1, 2), 8);
        C.due("45 length of link 1", () -> x.joint(1, 3), 1);
        int[] cells = {-10, 10, 0, -1, 1, 0};
        for (int i = 0; i < 6; i++) {
            int k = i;
            C.due("45 obstacle " + i, () -> x.obstacle(k / 2, k % 2 == 1), cells[i]);
        }
        C.due("45 input is empty", () -> x.append('O'), 1);
        C.due("45 one change", x::undo, 0);
        C.due("45 all undone", () -> x.count(0) + x.count(1), 0);
        Arms.write(x, "-2,9;");
        C.due("45 the rest", x::read, 1);
        C.due("45 x", () -> x.obstacle(0, false), -2);
        C.due("45 y", () -> x.obstacle(0, true), 9);
        LatticeArm y = new LatticeArm();
        Arms.write(y, "O1,1;O1,2;O1,3;O1,4;O1,5;O1,6;O1,7;O1,8;O1,9;O2,0;O2,1;O2,2;");
        C.due("45 sixty characters", y::read, 12);
        LatticeArm z = Arms.arm(1, 2, 2);
        z.setValue(0, 1);
        z.planToPose(0);
        Arms.write(z, "L2(-1,1);");
        C.due("45 one", z::read, 1);
        C.due("45 the others stay", () -> z.joint(0, 0), 1);
        C.element("45 no path then", z::pathLength);
    }

    private static void readRefused() {
        String[] texts = {"O0,0;", "O-0,-0;", "O3,3;O0,0;", "O3,3;O3,3;", "O5,5;", "O4,4;L1(-1,1);L1(-1,1);O5,5;",
            "L1(-0,0);L1(-0,0);L1(-0,0);L1(-0,0);"};
        LatticeArm x = Arms.arm(2, 2, 2);
        x.addObstacle(5, 5);
        x.planToPose(0);
        for (String text : texts) {
            Arms.write(x, text);
            C.state("45 " + text, x::read);
            C.due("45 input is empty", () -> x.append('O'), 1);
            C.argument("45 O", x::read);
            C.due("45 no link", () -> x.count(0), 1);
            C.due("45 no obstacle", () -> x.count(1), 1);
            C.due("45 no cell", () -> x.isObstacle(3, 3) || x.isObstacle(4, 4), false);
            C.due("45 the path stays", x::pathLength, 2);
        }
        C.due("45 is no change", x::undo, 1);
        LatticeArm y = new LatticeArm();
        for (int i = 0; i < 59; i++) {
            y.addObstacle(i % 20 - 10, 2 + i / 20);
        }
        Arms.write(y, "O9,9;O8,8;");
        C.state("45 sixty-one obstacles", y::read);
        C.due("45 none of them", () -> y.count(1), 59);
        C.element("46 none kept", y::errorPosition);
        Arms.write(y, "O9,9;");
        C.due("45 sixty obstacles", y::read, 1);
        Arms.write(y, "O8,8;L9");
        C.argument("45 no text first", y::read);
        C.due("46 position", y::errorPosition, 6);
    }

    private static void errorPositions() {
        String[] texts = {"", "o", "L", "L0", "L6", "L1", "L1(", "L1[", "L1(0", "L1(-", "L1(-9", "L1(-8", "L1(-8,",
            "L1(-8,-", "L1(-8,9", "L1(-88", "L1(-8,8", "L1(-8,8)", "L1(-8,8),", "L1(-8,88", "O1,1;;", "O1,1; ", "O1,1",
            "O1,10", "O1,100", "O1,11", "O1,12;", "O01,1;", "O00,1;", "O-01,1;", "O--1,1;", "O+1,1;", "O10,10",
            "O-10,-10", "O2,2;L", "O20,1;", "O9,99", "O1;", "O,1;", "O1,;", "O1,1,", " O1,1;", "O1,-", "O1,-;", "O-,1",
            "O11,1;", "O1 ,1;", "L1(-1,1);X", "O10", "O-10", "O100", "O1,0", "O1,00"};
        int[] due = {0, 0, 1, 1, 1, 2, 3, 2, 3, 4, 4, 5, 6, 6, 6, 5, 7, 8, 8, 7, 5, 5, 4, 5, 5, 4, 4, 2, 2, 3, 2, 1, 6,
            8, 6, 2, 4, 2, 1, 3, 4, 0, 4, 4, 2, 2, 2, 9, 3, 4, 3, 4, 4};
        LatticeArm x = new LatticeArm();
        for (int i = 0; i < texts.length; i++) {
            Arms.write(x, texts[i]);
            C.argument("45 " + texts[i], x::read);
            C.due("46 " + texts[i], x::errorPosition, due[i]);
        }
        C.due("46 nothing was added", () -> x.count(0) + x.count(1), 0);
        LatticeArm y = new LatticeArm();
        Arms.write(y, "O1,1;O1,2;O1,3;O1,4;O1,5;O1,6;O1,7;O1,8;O1,9;O2,0;O2,1;O10,1");
        C.argument("45 sixty characters", y::read);
        C.due("46 sixty characters", y::errorPosition, 60);
    }

    /** No part of a text that ends before its last semicolon is wrong before its end. */
    private static void everyPrefix() {
        String text = "L3(-0,8);O-10,0;O1,-1;O10,10;L5(-8,0);O9,-2;";
        for (int size = 0; size <= text.length(); size++) {
            String part = text.substring(0, size);
            LatticeArm x = new LatticeArm();
            Arms.write(x, part);
            if (part.endsWith(";")) {
                C.due("45 " + part, x::read, part.split(";").length);
            } else {
                C.argument("45 " + part, x::read);
                C.due("46 " + part, x::errorPosition, size);
            }
            Arms.write(x, part + "!");
            C.argument("45 " + part + "!", x::read);
            C.due("46 " + part + "!", x::errorPosition, size);
        }
    }

    private static void errorPositionStays() {
        LatticeArm x = new LatticeArm();
        C.element("46 none", x::errorPosition);
        Arms.write(x, "O1,1;");
        x.read();
        C.element("46 none after a text", x::errorPosition);
        Arms.write(x, "O1,1;");
        C.state("45 twice", x::read);
        C.element("46 none after a refused text", x::errorPosition);
        Arms.write(x, "O1,");
        C.argument("45 no end", x::read);
        C.due("46 three", x::errorPosition, 3);
        Arms.write(x, "O2,1;");
        x.save();
        x.read();
        x.undo();
        x.restore();
        x.clear();
        Arms.write(x, "O0,0;");
        C.state("45 base", x::read);
        C.due("46 still three", x::errorPosition, 3);
        C.argument("45 empty", x::read);
        C.due("46 zero", x::errorPosition, 0);
    }

    private static void undo() {
        LatticeArm x = new LatticeArm();
        C.element("47 none", x::undo);
        x.addLink(2, 2, 2);
        x.setValue(0, 1);
        x.move(1);
        x.setLimits(0, 0, 0);
        C.due("47 limits", x::undo, 3);
        C.due("47 value", () -> x.joint(0, 0), 2);
        C.due("47 lower", () -> x.joint(0, 1), -2);
        x.planToPose(0);
        C.due("47 move", x::undo, 2);
        C.element("47 no path then", x::pathLength);
        C.due("47 value", () -> x.joint(0, 0), 1);
        C.due("47 is not a change", x::undo, 1);
        C.due("47 link", x::undo, 0);
        C.due("47 links", () -> x.count(0), 0);
        C.element("47 none again", x::undo);
        LatticeArm y = Arms.arm(2, 4, 4);
        y.planToPose(8);
        y.follow(3);
        y.setValue(0, -1);
        C.due("47 after following", y::undo, 1);
        C.due("47 just before the change", () -> y.joint(0, 0), 3);
    }

    private static void undoLimit() {
        LatticeArm x = Arms.arm(1, 8, 8);
        for (int v = 1; v <= 8; v++) {
            x.setValue(0, v);
        }
        for (int left = 7; left >= 0; left--) {
            C.due("47 undo", x::undo, left);
            int v = left;
            C.due("47 value", () -> x.joint(0, 0), v);
        }
        C.element("47 the oldest is forgotten", x::undo);
        for (int i = 0; i < 21; i++) {
            x.setValue(0, i % 8 - 4);
        }
        C.due("47 undo", x::undo, 7);
        x.setValue(0, 8);
        x.setValue(0, 8);
        for (int left = 7; left >= 0; left--) {
            C.due("47 undo", x::undo, left);
        }
        C.due("47 oldest of eight", () -> x.joint(0, 0), 13 % 8 - 4);
        C.element("47 no more", x::undo);
    }

    private static void undoEach() {
        LatticeArm x = Arms.arm(3, 4, 4, 2, 3, 3);
        x.addObstacle(4, 4);
        x.addObstacle(5, 4);
        x.setValue(0, 2);
        x.bookmark('a');
        x.planToPose(x.poseNumber());
        Runnable[] calls = {() -> x.addLink(1, 1, 1), x::removeLink, () -> x.setLimits(0, 1, 1),
            () -> x.addObstacle(9, 9), () -> x.removeObstacle(4, 4), () -> x.setValue(0, -4), () -> x.move(3),
            () -> {
                Arms.write(x, "L1(-1,2);O8,8;");
                x.read();
            }};
        String before = state(x);
        for (int i = 0; i < calls.length; i++) {
            calls[i].run();
            C.due("47 changed " + i, () -> state(x).equals(before), false);
            x.undo();
            C.due("47 undone " + i, () -> state(x), before);
        }
        C.state("47 no change", () -> x.addObstacle(4, 4));
        C.due("47 five remain", x::undo, 4);
    }

    /** All that history and saving keep. */
    private static String state(LatticeArm x) {
        StringBuilder all = new StringBuilder();
        for (int j = 0; j < x.count(0); j++) {
            for (int w = 0; w < 4; w++) {
                all.append(x.joint(j, w)).append(' ');
            }
        }
        for (int i = 0; i < x.count(1); i++) {
            all.append(x.obstacle(i, false)).append(',').append(x.obstacle(i, true)).append(' ');
        }
        int[][] cells = {{4, 4}, {5, 4}, {9, 9}, {8, 8}, {1, 2}, {3, 2}};
        for (int[] cell : cells) {
            all.append(x.isObstacle(cell[0], cell[1]) ? '#' : '.');
        }
        return all.append(x.poseNumber()).toString();
    }

    private static void save() {
        LatticeArm x = new LatticeArm();
        C.due("48 nothing", x::save, 0);
        C.due("49 nothing", x::restore, 0);
        x.addLink(3, 2, 1);
        x.addObstacle(1, 2);
        x.setValue(0, -1);
        x.planToPose(0);
        C.due("48 one", x::save, 1);
        C.due("48 the path stays", x::pathLength, 1);
        String one = state(x);
        C.due("48 is no change", x::undo, 2);
        x.addLink(1, 0, 0);
        x.addObstacle(3, 2);
        C.due("49 one", x::restore, 1);
        C.due("49 all", () -> state(x), one);
        x.addLink(1, 0, 0);
        x.removeObstacle(1, 2);
        C.due("48 replaces", x::save, 2);
        String two = state(x);
        x.clear();
        C.due("49 two", x::restore, 2);
        C.due("49 the latest", () -> state(x), two);
    }

    private static void restore() {
        LatticeArm x = Arms.arm(2, 2, 2);
        C.state("49 nothing saved", x::restore);
        x.setValue(0, 2);
        x.save();
        x.setValue(0, 1);
        x.planToPose(0);
        C.due("49 one link", x::restore, 1);
        C.due("49 value", () -> x.joint(0, 0), 2);
        C.element("49 no path then", x::pathLength);
        C.element("49 no history then", x::undo);
        x.setLimits(0, 1, 1);
        C.due("49 it stays saved", x::restore, 1);
        C.due("49 limits", () -> x.joint(0, 1), -2);
        C.due("49 survey", x::freePoses, 5);
        x.addObstacle(2, 2);
        x.restore();
        C.due("49 no obstacle", x::freePoses, 5);
    }
}
