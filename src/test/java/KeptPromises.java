/** The sentences of the promises 42 to 49: bookmarks, texts, history and saving. */
final class KeptPromises {
    private static final String ARGUMENT = "IllegalArgumentException";
    private static final String STATE = "IllegalStateException";
    private static final String ELEMENT = "NoSuchElementException";
    private static final String UNSUPPORTED = "UnsupportedOperationException";
    private static final String SIXTY = "O1,1;O1,2;O1,3;O1,4;O1,5;O1,6;O1,7;O1,8;O1,9;O2,0;O2,1;O2,2;";

    private final Checks c;

    private KeptPromises(Checks checks) {
        c = checks;
    }

    static void run(Sentences s) {
        KeptPromises t = new KeptPromises(s.checks);
        t.bookmarkSentences(s);
        t.planToNameSentences(s);
        t.appendSentences(s);
        t.readSentences(s);
        t.errorPositionSentences(s);
        t.undoSentences(s);
        t.saveSentences(s);
        t.restoreSentences(s);
    }

    private static LatticeArm named(int names) {
        LatticeArm x = Arms.arm(1, 8, 8);
        for (int i = 0; i < names; i++) {
            x.bookmark((char) ('a' + 5 * i));
        }
        return x;
    }

    private void bookmarkSentences(Sentences s) {
        s.promise(42);
        s.test("Puts the present pose under a name, in place of the one that has it.", () -> {
            LatticeArm x = Arms.arm(1, 8, 8);
            x.setValue(0, 8);
            x.bookmark('a');
            x.setValue(0, -8);
            x.bookmark('z');
            x.setValue(0, 0);
            c.due("to a", () -> x.planToName('a'), 8);
            x.follow(8);
            c.due("to z", () -> x.planToName('z'), 16);
            x.bookmark('z');
            c.due("to z, put anew", () -> x.planToName('z'), 0);
            x.setValue(0, -8);
            c.due("to z, put anew, from -8", () -> x.planToName('z'), 16);
            x.removeLink();
            x.bookmark('a');
            c.due("to a, without links", () -> x.planToName('a'), 0);
            LatticeArm y = Arms.parted();
            c.due("a pose that is not free", () -> y.bookmark('n'), 1);
            y.removeObstacle(2, 0);
            y.setValue(0, 1);
            c.due("to it when it is free", () -> y.planToName('n'), 1);
        });
        s.test("At most 6 names are used; the names stay at all changes, and at clear, undo and restore, and they are not "
                + "saved.", this::namesStay);
        s.test("The path stays.", () -> {
            LatticeArm x = Arms.rich();
            x.bookmark('b');
            x.bookmark('c');
            c.due("length", x::pathLength, 4);
            c.due("position", () -> x.back(0), 2);
            c.due("the rest", () -> x.follow(9), 0);
            c.due("its end", x::poseNumber, 8);
        });
        s.test("name: the name, a character with a code from 97 to 122", () -> {
            c.argument("96", () -> new LatticeArm().bookmark((char) 96));
            c.due("97", () -> new LatticeArm().bookmark((char) 97), 1);
            c.due("122", () -> new LatticeArm().bookmark((char) 122), 1);
            c.argument("123", () -> new LatticeArm().bookmark((char) 123));
        });
        s.test("Returns the number of names that are used.", () -> {
            LatticeArm x = new LatticeArm();
            for (int names = 1; names <= 6; names++) {
                char name = (char) ('z' - names);
                c.due("a new name", () -> x.bookmark(name), names);
                c.due("the same name", () -> x.bookmark(name), names);
            }
            c.due("the first name", () -> x.bookmark('y'), 6);
        });
        s.test("Throws IllegalArgumentException if the name is out of range", () -> {
            for (int code : new int[] {0, 32, 64, 65, 90, 96, 123, 126, 255, 97 + 256, 65535}) {
                c.refused(ARGUMENT, "code " + code, Arms::rich, x -> x.bookmark((char) code));
            }
        });
        s.test("Throws IllegalStateException if 6 other names are used", () -> {
            c.due("five other names", () -> named(5).bookmark('z'), 6);
            for (char name : new char[] {'b', 'y'}) {
                c.refused(STATE, "six other names than " + name, () -> named(6), x -> x.bookmark(name));
            }
            for (int i = 0; i < 6; i++) {
                char name = (char) ('a' + 5 * i);
                c.due("five other names than " + name, () -> named(6).bookmark(name), 6);
            }
        });
    }

    private void namesStay() {
        LatticeArm x = named(6);
        c.state("a seventh one", () -> x.bookmark('b'));
        c.due("the seventh one is not used", () -> x.planToName('b'), UNSUPPORTED);
        Checks.Act[] acts = {LatticeArm::clear, LatticeArm::undo, LatticeArm::restore, y -> y.addLink(1, 0, 0),
            LatticeArm::removeLink, y -> y.setLimits(0, 2, 2), y -> y.addObstacle(9, 7), y -> y.removeObstacle(9, 9),
            y -> y.setValue(0, 0), y -> y.move(1), LatticeArm::read, LatticeArm::save};
        for (int i = 0; i < acts.length; i++) {
            LatticeArm y = Arms.rich();
            int k = i;
            c.due("act " + i, () -> Checks.answerOf(() -> acts[k].on(y)).endsWith("Exception"), false);
            c.due("both names stay at act " + i, () -> y.bookmark('q'), 2);
            while (y.count(0) > 0) {
                y.removeLink();
            }
            y.addLink(1, 3, 2);
            y.addLink(1, 2, 2);
            c.due("the pose of b stays at act " + i, () -> y.planToName('b'), 1);
            y.follow(1);
            c.due("its values at act " + i, () -> 10 * y.joint(0, 0) + y.joint(1, 0), 10);
        }
        LatticeArm z = Arms.arm(1, 8, 8);
        z.save();
        z.bookmark('m');
        z.restore();
        c.due("a name put after saving stays at restore", () -> z.planToName('m'), 0);
        z.setValue(0, 3);
        z.bookmark('m');
        z.restore();
        c.due("the pose of the name is not restored", () -> z.planToName('m'), 3);
    }

    private void planToNameSentences(Sentences s) {
        s.promise(43);
        s.test("Plans the best path to the pose under a name.", () -> {
            LatticeArm x = Arms.rich();
            x.planToName('q');
            PlanEdges.pathIs(c, "to q", x, 1, 1, 2);
            x.planToName('b');
            PlanEdges.pathIs(c, "to b", x, 1, 1);
            LatticeArm y = Arms.arm(2, 0, 1, 1, 0, 2);
            y.setValue(1, 2);
            y.bookmark('k');
            y.setValue(1, 0);
            y.addObstacle(3, 1);
            y.planToName('k');
            PlanEdges.pathIs(c, "round", y, 1, 3, 3, 0);
        });
        s.test("name: the name", () -> {
            LatticeArm x = Arms.arm(1, 8, 8);
            x.bookmark('a');
            x.bookmark('z');
            c.argument("before a", () -> x.planToName((char) 96));
            c.due("a", () -> x.planToName('a'), 0);
            c.due("b", () -> x.planToName('b'), UNSUPPORTED);
            c.due("y", () -> x.planToName('y'), UNSUPPORTED);
            c.due("z", () -> x.planToName('z'), 0);
            c.argument("behind z", () -> x.planToName((char) 123));
        });
        s.test("Returns the number of moves.", () -> {
            LatticeArm x = Arms.arm(1, 8, 8);
            x.setValue(0, -8);
            x.bookmark('a');
            c.due("none", () -> x.planToName('a'), 0);
            x.setValue(0, 8);
            c.due("sixteen", () -> x.planToName('a'), 16);
            c.due("length", x::pathLength, 16);
        });
        s.test("Throws IllegalArgumentException if the name is out of range", () -> {
            for (int code : new int[] {0, 65, 96, 123, 97 + 256, 65535}) {
                c.refused(ARGUMENT, "code " + code, Arms::rich, x -> x.planToName((char) code));
            }
        });
        s.test("Throws UnsupportedOperationException if the name is not used, or its pose does not have as many values as "
                + "there are links, or one that is not within the limits now", this::planToNameUnsuited);
        s.test("Throws IllegalStateException if there are more than 5000 poses", () -> {
            c.due("5000", () -> withName(Arms.justFewEnough()).planToName('n'), 0);
            c.refused(STATE, "5005", () -> withName(Arms.tooMany()), x -> x.planToName('n'));
            c.refused(STATE, "5005, not free", () -> withName(Arms.tooManyAndFaulty()), x -> x.planToName('n'));
        });
        s.test("Throws NoSuchElementException if there is no path", () -> {
            c.refused(ELEMENT, "from a pose that is not free", Arms::faulty, x -> x.planToName('b'));
            c.refused(ELEMENT, "to itself", () -> withName(Arms.parted()), x -> x.planToName('n'));
            LatticeArm x = withName(Arms.parted());
            x.setValue(0, 1);
            x.bookmark('o');
            c.element("to a pose that is not free", () -> x.planToName('n'));
            c.due("to a free one", () -> x.planToName('o'), 0);
            x.setValue(0, -1);
            c.element("to one that is not connected", () -> x.planToName('o'));
        });
    }

    private static LatticeArm withName(LatticeArm x) {
        x.bookmark('n');
        return x;
    }

    private void planToNameUnsuited() {
        c.refused(UNSUPPORTED, "no names", Arms::empty, x -> x.planToName('a'));
        c.refused(UNSUPPORTED, "another name", Arms::rich, x -> x.planToName('a'));
        c.refused(UNSUPPORTED, "more links", Arms::long4, x -> x.planToName('b'));
        LatticeArm less = Arms.rich();
        less.removeLink();
        c.due("fewer links", () -> less.planToName('b'), UNSUPPORTED);
        less.removeLink();
        c.due("no links", () -> less.planToName('b'), UNSUPPORTED);
        less.addLink(5, 0, 1);
        less.addLink(5, 1, 0);
        c.due("as many links again, at the limits", () -> less.planToName('q'), 2);
        LatticeArm limits = Arms.rich();
        limits.setLimits(0, 3, 1);
        c.due("at the upper limit", () -> limits.planToName('b'), 2);
        limits.setLimits(0, 3, 0);
        c.due("above the upper limit", () -> limits.planToName('b'), UNSUPPORTED);
        limits.setLimits(0, 3, 2);
        limits.setLimits(1, 1, 2);
        c.due("at the lower limit", () -> limits.planToName('q'), 3);
        limits.setLimits(1, 0, 2);
        c.due("below the lower limit", () -> limits.planToName('q'), UNSUPPORTED);
        c.due("the other name", () -> limits.planToName('b'), 2);
        LatticeArm none = withName(new LatticeArm());
        none.addLink(1, 8, 8);
        c.due("without values", () -> none.planToName('n'), UNSUPPORTED);
        none.removeLink();
        c.due("without values, without links", () -> none.planToName('n'), 0);
    }

    private void appendSentences(Sentences s) {
        s.promise(44);
        s.test("Appends a character to the input.", () -> {
            LatticeArm x = new LatticeArm();
            Arms.write(x, "O-10,9;");
            c.due("all characters in their order", x::read, 1);
            c.due("x", () -> x.obstacle(0, false), -10);
            c.due("y", () -> x.obstacle(0, true), 9);
        });
        s.test("character: the character, with a code from 32 to 126", () -> {
            LatticeArm x = new LatticeArm();
            c.argument("31", () -> x.append((char) 31));
            c.due("32", () -> x.append((char) 32), 1);
            c.due("126", () -> x.append((char) 126), 2);
            c.argument("127", () -> x.append((char) 127));
        });
        s.test("Returns the new length of the input.", () -> {
            LatticeArm x = new LatticeArm();
            for (int code = 32; code <= 126; code++) {
                char sign = (char) code;
                int due = (code - 32) % 60 + 1;
                c.due("code " + code, () -> x.append(sign), due);
                if (due == 60) {
                    Checks.answerOf(x::read);
                }
            }
        });
        s.test("Throws IllegalArgumentException if the character code is out of range", () -> {
            for (int code : new int[] {0, 10, 31, 127, 128, 255, 256 + 65, 65535}) {
                c.refused(ARGUMENT, "code " + code, Arms::rich, x -> x.append((char) code));
            }
        });
        s.test("Throws IllegalStateException if the input has 60 characters", () -> {
            LatticeArm x = new LatticeArm();
            Arms.write(x, SIXTY.substring(0, 59));
            c.due("the sixtieth", () -> x.append(';'), 60);
            c.state("one more", () -> x.append(';'));
            c.due("the sixty are read", x::read, 12);
            c.due("one of the next", () -> x.append(';'), 1);
        });
    }

    private void readSentences(Sentences s) {
        s.promise(45);
        s.test("Adds the links and obstacles of the text in the input, in their order, or none of them.", this::readAll);
        s.test("The input is empty afterwards, whatever happens.", () -> {
            String[] texts = {"O1,1;", "", "O1,1", "O0,0;", SIXTY, SIXTY.substring(0, 59) + "!"};
            String[] due = {"1", ARGUMENT, ARGUMENT, STATE, "12", ARGUMENT};
            for (int i = 0; i < texts.length; i++) {
                LatticeArm x = new LatticeArm();
                int k = i;
                c.due("text " + i, () -> Arms.answerToText(x, texts[k]), due[i]);
                c.argument("text " + i + ", nothing to read", x::read);
                c.due("text " + i + ", nothing to read", x::errorPosition, 0);
                c.due("text " + i + ", the next character", () -> x.append('!'), 1);
            }
        });
        s.test("Returns the number of entries.", () -> {
            c.due("one obstacle", () -> Arms.answerToText(new LatticeArm(), "O1,1;"), 1);
            c.due("one link", () -> Arms.answerToText(new LatticeArm(), "L1(-0,0);"), 1);
            c.due("twelve", () -> Arms.answerToText(new LatticeArm(), SIXTY), 12);
            c.due("four links", () -> Arms.answerToText(new LatticeArm(), "L1(-0,0);L5(-8,8);L2(-0,8);L3(-8,0);"), 4);
        });
        s.test("Throws IllegalArgumentException if the input is not a text of this kind; the error position is then kept "
                + "for errorPosition", () -> {
            String[] texts = {"", " ", "O1,1", "O1,1;L", "o1,1;", "O1,1;;", "O0,0;!", "O11,1;"};
            int[] due = {0, 0, 4, 6, 0, 5, 5, 2};
            LatticeArm x = new LatticeArm();
            for (int i = 0; i < texts.length; i++) {
                int k = i;
                c.due("text " + i, () -> Arms.answerToText(x, texts[k]), ARGUMENT);
                c.due("error position " + i, x::errorPosition, due[i]);
            }
            c.due("nothing is added", () -> x.count(0) + x.count(1), 0);
            c.element("no change", x::undo);
        });
        s.test("Throws IllegalStateException if addLink or addObstacle would throw any exception for one of them, behind "
                + "those before it", this::readRefused);
    }

    private void readAll() {
        LatticeArm x = Arms.arm(1, 8, 8);
        x.setValue(0, 2);
        x.addObstacle(-3, 3);
        c.due("four entries", () -> Arms.answerToText(x, "O10,-10;L5(-8,0);O-0,1;L1(-0,8);"), 4);
        int[][] links = {{2, -8, 8, 1}, {0, -8, 0, 5}, {0, 0, 8, 1}};
        for (int i = 0; i < 12; i++) {
            int k = i;
            c.due("link " + k / 4 + " number " + k % 4, () -> x.joint(k / 4, k % 4), links[k / 4][k % 4]);
        }
        int[][] obstacles = {{-3, 3}, {10, -10}, {0, 1}};
        for (int i = 0; i < 3; i++) {
            int k = i;
            c.due("x of obstacle " + i, () -> x.obstacle(k, false), obstacles[i][0]);
            c.due("y of obstacle " + i, () -> x.obstacle(k, true), obstacles[i][1]);
        }
        c.due("one change", x::undo, 3);
        c.due("all of them undone", () -> 10 * x.count(0) + x.count(1), 11);
        c.due("one more link than may be", () -> Arms.answerToText(x, "O5,5;L1(-0,0);L1(-0,0);L1(-0,0);L1(-0,0);"), STATE);
        c.due("none of them", () -> 10 * x.count(0) + x.count(1), 11);
        c.due("no text at its end", () -> Arms.answerToText(x, "O5,5;L1(-0,0);O5,"), ARGUMENT);
        c.due("none of them", () -> 10 * x.count(0) + x.count(1), 11);
    }

    private void readIsRefused(String what, Checks.Maker maker, String text) {
        LatticeArm x = maker.make();
        Checks.answerOf(x::read);
        c.due(what, () -> Arms.answerToText(x, text), STATE);
        LatticeArm y = maker.make();
        Checks.answerOf(y::read);
        c.due(what + ", then the state", () -> Portrait.of(x), Portrait.of(y));
    }

    /** What is there before has no input that could be read. */
    private void readRefused() {
        Checks.Maker rich = () -> Arms.rich("O7!", "");
        readIsRefused("the base", rich, "O0,0;");
        readIsRefused("the base, with signs", rich, "O-0,-0;");
        readIsRefused("the base behind others", rich, "O1,1;L1(-0,0);O0,0;");
        readIsRefused("an obstacle that is one", rich, "O9,9;");
        readIsRefused("an obstacle that is one before others", rich, "O-9,8;O1,1;");
        readIsRefused("twice the same", rich, "O1,1;O1,1;");
        readIsRefused("twice the same, with a sign", rich, "O0,1;O-0,1;");
        readIsRefused("a fifth link", rich, "L1(-0,0);L1(-0,0);L1(-0,0);");
        readIsRefused("a fifth link before others", rich, "L1(-0,0);L1(-0,0);L1(-0,0);O1,1;");
        LatticeArm four = Arms.rich("O7!", "");
        c.due("a fourth link", () -> Arms.answerToText(four, "L1(-0,0);L1(-0,0);"), 2);
        c.due("a fifth one then", () -> Arms.answerToText(four, "L1(-0,0);"), STATE);
        LatticeArm x = new LatticeArm();
        for (int i = 0; i < 58; i++) {
            x.addObstacle(i % 20 - 10, 2 + i / 20);
        }
        c.due("61 obstacles", () -> Arms.answerToText(x, "O1,1;O1,0;O0,1;"), STATE);
        c.due("none of them", () -> x.count(1), 58);
        c.due("sixty obstacles", () -> Arms.answerToText(x, "O1,1;O1,0;"), 2);
        c.due("one more", () -> Arms.answerToText(x, "O0,1;"), STATE);
        c.due("sixty", () -> x.count(1), 60);
        c.due("links though", () -> Arms.answerToText(x, "L5(-8,8);"), 1);
        c.element("no error position is kept", x::errorPosition);
    }

    private void errorPositionSentences(Sentences s) {
        s.promise(46);
        s.test("Returns the error position that was kept last; it stays until the next text that is not as told is read.", () -> {
            LatticeArm x = new LatticeArm();
            Arms.answerToText(x, "O1,");
            c.due("three", x::errorPosition, 3);
            c.due("three again", x::errorPosition, 3);
            Arms.answerToText(x, "O1,1;");
            c.due("after a text", x::errorPosition, 3);
            Arms.answerToText(x, "O0,0;");
            c.due("after a text that is refused", x::errorPosition, 3);
            x.save();
            x.undo();
            x.restore();
            x.clear();
            x.append('O');
            c.due("after all else", x::errorPosition, 3);
            Checks.answerOf(x::read);
            c.due("one", x::errorPosition, 1);
            Checks.answerOf(x::read);
            c.due("zero, nothing to read", x::errorPosition, 0);
            Arms.answerToText(x, SIXTY.substring(0, 55) + "O10,1");
            c.due("sixty", x::errorPosition, 60);
        });
        s.test("Throws NoSuchElementException if none was kept", () -> {
            c.refused(ELEMENT, "a new object", Arms::empty, LatticeArm::errorPosition);
            c.refused(ELEMENT, "before reading", () -> {
                LatticeArm x = new LatticeArm();
                Arms.write(x, "!");
                return x;
            }, LatticeArm::errorPosition);
            LatticeArm x = new LatticeArm();
            Arms.answerToText(x, "O1,1;");
            c.element("after a text", x::errorPosition);
            Arms.answerToText(x, "O1,1;");
            c.element("after a text that is refused", x::errorPosition);
        });
    }

    private void undoSentences(Sentences s) {
        s.promise(47);
        s.test("Undoes the latest change that is remembered.", () -> {
            LatticeArm x = Arms.arm(1, 8, 8);
            x.addObstacle(5, 5);
            x.addObstacle(6, 6);
            x.addObstacle(7, 7);
            x.removeObstacle(5, 5);
            x.undo();
            c.due("an obstacle in its place", () -> x.obstacle(0, false), 5);
            c.due("the last one", () -> x.obstacle(2, false), 7);
            x.undo();
            c.due("the latest one first", () -> x.count(1), 2);
            x.setValue(0, 8);
            x.setLimits(0, 8, 7);
            x.undo();
            c.due("limits with the value", () -> x.joint(0, 0), 8);
            c.due("upper limit", () -> x.joint(0, 2), 8);
            x.removeLink();
            x.undo();
            c.due("a link with its value", () -> x.joint(0, 0), 8);
            c.due("free poses, as before", x::freePoses, 17);
        });
        s.test("Returns the number of changes that are still remembered.", () -> {
            LatticeArm x = Arms.arm(1, 8, 8);
            c.due("of one", x::undo, 0);
            for (int i = 0; i < 20; i++) {
                x.addObstacle(5, i - 10);
            }
            for (int left = 7; left >= 0; left--) {
                c.due("of eight", x::undo, left);
            }
            c.due("obstacles that stay", () -> x.count(1), 12);
            x.addLink(1, 0, 0);
            x.setValue(0, 0);
            c.due("of two new ones", x::undo, 1);
        });
        s.test("Throws NoSuchElementException if no change is remembered", () -> {
            c.refused(ELEMENT, "a new object", Arms::empty, LatticeArm::undo);
            c.refused(ELEMENT, "after restore", KeptPromises::restoredRich, LatticeArm::undo);
            c.refused(ELEMENT, "after eight of nine", KeptPromises::undoneRich, LatticeArm::undo);
            LatticeArm x = Arms.rich();
            x.clear();
            c.element("after clear", x::undo);
            LatticeArm y = Arms.arm(1, 1, 1);
            y.undo();
            c.element("after the only one", y::undo);
            c.element("again", y::undo);
        });
    }

    private static LatticeArm restoredRich() {
        LatticeArm x = Arms.rich();
        x.restore();
        x.planToPose(3);
        return x;
    }

    private static LatticeArm undoneRich() {
        LatticeArm x = Arms.rich();
        for (int i = 0; i < 8; i++) {
            x.undo();
        }
        return x;
    }

    private void saveSentences(Sentences s) {
        s.promise(48);
        s.test("Saves the links with limits and values, and the obstacles.", () -> {
            LatticeArm x = Arms.crowded();
            String before = Portrait.sceneOf(x);
            x.save();
            c.due("nothing changes", () -> Portrait.sceneOf(x), before);
            c.due("the path stays", () -> x.follow(0), 2);
            c.due("no change", x::undo, 7);
            x.clear();
            x.restore();
            c.due("all of it", () -> Portrait.sceneOf(x), before);
            LatticeArm y = new LatticeArm();
            y.save();
            y.addLink(1, 1, 1);
            y.addObstacle(4, 4);
            y.restore();
            c.due("nothing", () -> Portrait.sceneOf(y), Portrait.sceneOf(new LatticeArm()));
        });
        s.test("What was saved before is replaced.", () -> {
            LatticeArm x = Arms.rich();
            x.removeLink();
            x.save();
            x.clear();
            c.due("links", x::restore, 1);
            c.due("value", () -> x.joint(0, 0), -1);
            x.clear();
            x.save();
            x.addLink(1, 1, 1);
            c.due("nothing in place of something", x::restore, 0);
            c.due("obstacles", () -> x.count(1), 0);
        });
        s.test("Returns the number of links.", () -> {
            LatticeArm x = new LatticeArm();
            for (int links = 0; links <= 4; links++) {
                c.due(links + " links", x::save, links);
                if (links < 4) {
                    x.addLink(1, 0, 0);
                }
            }
        });
    }

    private void restoreSentences(Sentences s) {
        s.promise(49);
        s.test("Restores what was saved.", () -> {
            LatticeArm x = Arms.rich();
            x.setLimits(0, 8, 8);
            x.setValue(0, 8);
            x.addLink(1, 1, 1);
            x.removeObstacle(9, 9);
            x.restore();
            int[][] due = {{1, -3, 2, 3}, {0, -2, 2, 2}};
            for (int i = 0; i < 8; i++) {
                int k = i;
                c.due("number " + i, () -> x.joint(k / 4, k % 4), due[k / 4][k % 4]);
            }
            c.due("obstacles", () -> x.count(1), 2);
            c.due("the first one", () -> x.obstacle(0, true), 9);
            c.due("the second one", () -> x.obstacle(1, true), 8);
            c.index("no third link", () -> x.joint(2, 0));
            c.element("no path", x::pathLength);
            c.element("no change", x::undo);
            c.due("the names stay", () -> x.bookmark('b'), 2);
            c.due("the error position stays", x::errorPosition, 2);
            c.due("the input stays", x::read, 1);
        });
        s.test("It stays saved.", () -> {
            LatticeArm x = Arms.rich();
            for (int i = 0; i < 3; i++) {
                c.due("links", x::restore, 2);
                c.due("value", () -> x.joint(0, 0), 1);
                c.due("obstacles", () -> x.count(1), 2);
                x.setValue(0, -3);
                x.setLimits(1, 0, 0);
                x.removeObstacle(-9, 8);
                x.removeLink();
            }
            x.clear();
            c.due("after clear", x::restore, 2);
            c.due("upper limit", () -> x.joint(1, 2), 2);
        });
        s.test("Returns the number of links.", () -> {
            LatticeArm x = new LatticeArm();
            x.save();
            x.addLink(1, 0, 0);
            c.due("none", x::restore, 0);
            for (int i = 0; i < 4; i++) {
                x.addLink(1, 0, 0);
            }
            x.save();
            x.clear();
            c.due("four", x::restore, 4);
        });
        s.test("Throws IllegalStateException if nothing was saved", () -> {
            c.refused(STATE, "a new object", Arms::empty, LatticeArm::restore);
            c.refused(STATE, "with a path", () -> {
                LatticeArm x = Arms.arm(1, 1, 1);
                x.planToPose(0);
                return x;
            }, LatticeArm::restore);
            LatticeArm x = Arms.arm(1, 1, 1);
            x.clear();
            c.state("after clear", x::restore);
            x.save();
            c.due("nothing at all saved is saved", x::restore, 0);
        });
    }
}
