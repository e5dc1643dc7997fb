/** All that can be asked of an object, in one text; the object has other values, names and input afterwards. */
final class Portrait {
    private final LatticeArm x;
    private final StringBuilder all = new StringBuilder();

    private Portrait(LatticeArm x) {
        this.x = x;
    }

    /** Asks some 350 calls at most, so that the object stays below its 512 ones. */
    static String of(LatticeArm x) {
        Portrait portrait = new Portrait(x);
        portrait.scene();
        portrait.path();
        portrait.names();
        portrait.history();
        portrait.input();
        portrait.saved();
        return portrait.all.toString();
    }

    /** The links with limits and values, and the obstacles; of many obstacles the first ones and the last ones. */
    static String sceneOf(LatticeArm x) {
        Portrait portrait = new Portrait(x);
        portrait.scene();
        return portrait.all.toString();
    }

    private String put(Checks.Call call) {
        String answer = Checks.answerOf(call);
        all.append(answer.replace("Exception", "")).append(' ');
        return answer;
    }

    private void scene() {
        all.append("\n scene ");
        for (int what = 0; what < 4; what++) {
            int w = what;
            put(() -> x.count(w));
        }
        for (int k = 0; k < x.count(0); k++) {
            for (int what = 0; what < 4; what++) {
                int joint = k;
                int w = what;
                put(() -> x.joint(joint, w));
            }
        }
        int obstacles = x.count(1);
        for (int i = 0; i < obstacles; i++) {
            if (i < 4 || i >= obstacles - 4) {
                int index = i;
                put(() -> x.obstacle(index, false));
                put(() -> x.obstacle(index, true));
                put(() -> x.isObstacle(x.obstacle(index, false), x.obstacle(index, true)));
            }
        }
        put(x::poseNumber);
        put(x::fault);
        put(x::moves);
    }

    private void path() {
        all.append("\n path ");
        put(x::pathChanges);
        put(x::pathCells);
        put(() -> x.follow(0));
        put(() -> x.back(0));
        if (!put(x::pathLength).endsWith("Exception")) {
            for (int i = 0; i < x.pathLength() && i < 40; i++) {
                int index = i;
                put(() -> x.pathMove(index));
            }
            put(() -> x.back(Integer.MAX_VALUE));
            put(x::poseNumber);
            put(() -> x.follow(Integer.MAX_VALUE));
            put(x::poseNumber);
        }
    }

    private void names() {
        all.append("\n names ");
        for (char name = 'a'; name <= 'z'; name++) {
            char n = name;
            if (!put(() -> x.planToName(n)).endsWith("Exception")) {
                x.follow(Integer.MAX_VALUE);
                put(x::poseNumber);
            }
        }
    }

    private void history() {
        all.append("\n history ");
        for (int i = 0; i < 9 && !put(x::undo).endsWith("Exception"); i++) {
            for (int what = 0; what < 4; what++) {
                int w = what;
                put(() -> x.count(w));
            }
            put(x::poseNumber);
            put(() -> x.tip(false));
            put(() -> x.tip(true));
        }
    }

    private void input() {
        all.append("\n input ");
        put(x::errorPosition);
        put(x::read);
        put(x::errorPosition);
        scene();
    }

    private void saved() {
        all.append("\n saved ");
        put(x::restore);
        scene();
    }
}
