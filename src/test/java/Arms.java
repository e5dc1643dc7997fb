/** Objects that the tests begin with. */
final class Arms {
    private Arms() {
    }

    /** An arm of links: for each one the length, the lower limit without its sign, and the upper limit. */
    static LatticeArm arm(int... numbers) {
        LatticeArm x = new LatticeArm();
        for (int i = 0; i + 2 < numbers.length; i += 3) {
            x.addLink(numbers[i], numbers[i + 1], numbers[i + 2]);
        }
        return x;
    }

    static LatticeArm empty() {
        return new LatticeArm();
    }

    static void write(LatticeArm x, String text) {
        for (char c : text.toCharArray()) {
            x.append(c);
        }
    }

    /** Reads a text that is refused or not. */
    static String answerToText(LatticeArm x, String text) {
        write(x, text);
        return Checks.answerOf(x::read);
    }

    /** Two links, two obstacles, eight changes and one forgotten, two names, and all else that there may be. */
    static LatticeArm rich() {
        return rich("O7!", "O7,-7;");
    }

    /** The rich one with another text that was refused, and with another input. */
    static LatticeArm rich(String refused, String input) {
        LatticeArm x = arm(3, 3, 2, 2, 2, 2);
        x.addObstacle(9, 9);
        x.addObstacle(-9, 8);
        answerToText(x, refused);
        x.setValue(0, 1);
        x.save();
        x.bookmark('b');
        x.setValue(1, -1);
        x.bookmark('q');
        x.move(3);
        x.setLimits(1, 2, 1);
        x.setLimits(1, 2, 2);
        write(x, input);
        planAndFollow(x);
        return x;
    }

    /** From the values 1 and 0 to the values -2 and 1: the moves 0, 0, 0 and 3, of which two are followed. */
    private static void planAndFollow(LatticeArm x) {
        x.planToPose(8);
        x.follow(2);
    }

    /** The rich one with 60 obstacles, the first ones as before. */
    static LatticeArm crowded() {
        LatticeArm x = rich();
        x.back(2);
        for (int i = 0; i < 58; i++) {
            x.addObstacle(i % 21 - 10, -10 + i / 21);
        }
        planAndFollow(x);
        return x;
    }

    /** The rich one with four links, in a free pose and with a path. */
    static LatticeArm long4() {
        LatticeArm x = rich();
        x.addLink(1, 1, 1);
        x.addLink(1, 0, 1);
        x.planToPose(x.poseNumber() + 1);
        x.follow(1);
        return x;
    }

    /** The rich one in a pose that is not free. */
    static LatticeArm faulty() {
        LatticeArm x = rich();
        x.addObstacle(1, 0);
        x.setValue(0, 0);
        return x;
    }

    /** 10 * 10 * 10 * 5 poses: 5000, as many as may be planned with. */
    static LatticeArm justFewEnough() {
        return arm(1, 4, 5, 1, 5, 4, 1, 1, 8, 1, 2, 2);
    }

    /** 5 * 7 * 11 * 13 poses: 5005, the least product beyond 5000 that limits can make. */
    static LatticeArm tooMany() {
        return arm(1, 2, 2, 1, 3, 3, 1, 5, 5, 1, 6, 6);
    }

    /** Too many poses, and the present one is not free: link 1 lies on link 0. */
    static LatticeArm tooManyAndFaulty() {
        LatticeArm x = arm(1, 2, 2, 1, 4, 2, 1, 5, 5, 1, 6, 6);
        x.setValue(1, -4);
        return x;
    }

    /** A joint with the values -1 to 1, of which 0, the present one, is not free. */
    static LatticeArm parted() {
        LatticeArm x = arm(2, 1, 1);
        x.addObstacle(2, 0);
        return x;
    }

    /** One pose, which is not free. */
    static LatticeArm stuck() {
        LatticeArm x = arm(1, 0, 0);
        x.addObstacle(1, 0);
        return x;
    }
}
