import java.util.Arrays;
import java.util.NoSuchElementException;

/** A planner for an arm on a grid; the document ../shared/DOC.md says what each method does. */
public final class LatticeArm {
    /** Coordinates run from -REACH to REACH. */
    private static final int REACH = 10;
    private static final int SIDE = 2 * REACH + 1;
    private static final int CELLS = SIDE * SIDE;
    private static final int MAX_LINKS = 4;
    private static final int MAX_LENGTH = 5;
    private static final int MAX_LIMIT = 8;
    private static final int MAX_MOVES = 2 * MAX_LINKS;
    private static final int MAX_OBSTACLES = 60;
    private static final int MAX_POSES = 5000;
    private static final int MAX_CHANGES = 8;
    private static final int MAX_NAMES = 6;
    private static final int LETTERS = 26;
    private static final int MAX_INPUT = 60;
    /** More than any distance, and more changes than any path has. */
    private static final int NEVER = 1000000;
    private static final int[] STEP_X = {1, 1, 0, -1, -1, -1, 0, 1};
    private static final int[] STEP_Y = {0, 1, 1, 1, 0, -1, -1, -1};

    private final Scene now = new Scene();
    private final Scene saved = new Scene();
    private final Scene draft = new Scene();
    private final History history = new History();
    private final Walk walk = new Walk();
    private final Space space = new Space();
    private final Route route = new Route();
    private final Bookmarks bookmarks = new Bookmarks();
    private final Input input = new Input();
    /** Values of a pose that is not the present one, free to use within one call. */
    private final int[] trial = new int[MAX_LINKS];
    /** A number for each cell, free to use within one call. */
    private final int[] tally = new int[CELLS];
    private boolean hasSaved = false;
    /** The error position that was kept last, or -1. */
    private int keptError = -1;

    public LatticeArm() {
    }

    // ---- links and obstacles

    public int clear() {
        int links = now.links;
        now.empty();
        history.forget();
        dropPlans();
        return links;
    }

    public int addLink(int length, int down, int up) throws IllegalArgumentException, IllegalStateException {
        if (length < 1 || length > MAX_LENGTH || !isLimit(down) || !isLimit(up)) {
            throw new IllegalArgumentException("a number is out of range");
        }
        if (now.links >= MAX_LINKS) {
            throw new IllegalStateException("there are 4 links");
        }
        beginChange();
        now.attach(length, down, up);
        return now.links - 1;
    }

    public int removeLink() throws IllegalStateException {
        if (now.links <= 0) {
            throw new IllegalStateException("there are no links");
        }
        beginChange();
        now.detach();
        return now.links;
    }

    public int setLimits(int joint, int down, int up) throws IndexOutOfBoundsException, IllegalArgumentException {
        if (!now.hasLink(joint)) {
            throw new IndexOutOfBoundsException("no such joint");
        }
        if (!isLimit(down) || !isLimit(up)) {
            throw new IllegalArgumentException("a limit is out of range");
        }
        beginChange();
        now.limit(joint, down, up);
        return now.valueOf(joint);
    }

    public int addObstacle(int x, int y)
            throws IndexOutOfBoundsException, IllegalArgumentException, IllegalStateException {
        requireCell(x, y);
        if (x == 0 && y == 0) {
            throw new IllegalArgumentException("the cell is the base");
        }
        if (now.obstacles >= MAX_OBSTACLES || now.isBlocked(x, y)) {
            throw new IllegalStateException("there are 60 obstacles, or the cell is one");
        }
        beginChange();
        now.block(x, y);
        return now.obstacles;
    }

    public int removeObstacle(int x, int y) throws IndexOutOfBoundsException, NoSuchElementException {
        requireCell(x, y);
        if (!now.isBlocked(x, y)) {
            throw new NoSuchElementException("the cell is no obstacle");
        }
        beginChange();
        now.unblock(x, y);
        return now.obstacles;
    }

    public int count(int what) throws IllegalArgumentException {
        switch (what) {
            case 0:
                return now.links;
            case 1:
                return now.obstacles;
            case 2:
                return now.poses();
            case 3:
                return now.wholeLength();
            default:
                throw new IllegalArgumentException("what is not 0 to 3");
        }
    }

    public int joint(int joint, int what) throws IndexOutOfBoundsException, IllegalArgumentException {
        if (!now.hasLink(joint) || joint >= MAX_LINKS) {
            throw new IndexOutOfBoundsException("no such joint");
        }
        walk.along(now, now.value);
        switch (what) {
            case 0:
                return now.value[joint];
            case 1:
                return now.lower[joint];
            case 2:
                return now.upper[joint];
            case 3:
                return now.length[joint];
            case 4:
                return walk.direction[joint];
            case 5:
                return walk.beginX[joint];
            case 6:
                return walk.beginY[joint];
            case 7:
                return Math.floorMod(now.value[joint], 8);
            default:
                throw new IllegalArgumentException("what is not 0 to 7");
        }
    }

    public boolean isObstacle(int x, int y) throws IndexOutOfBoundsException {
        requireCell(x, y);
        return now.isBlocked(x, y);
    }

    public int obstacle(int index, boolean isY) throws IndexOutOfBoundsException {
        if (index < 0 || index >= now.obstacles || index >= MAX_OBSTACLES) {
            throw new IndexOutOfBoundsException("no such obstacle");
        }
        return isY ? now.obstacleY[index] : now.obstacleX[index];
    }

    // ---- the present pose

    public int setValue(int joint, int value) throws IndexOutOfBoundsException, IllegalArgumentException {
        if (!now.hasLink(joint)) {
            throw new IndexOutOfBoundsException("no such joint");
        }
        if (!now.allows(joint, value)) {
            throw new IllegalArgumentException("value is not within the limits");
        }
        int previous = now.valueOf(joint);
        beginTurn();
        now.turnTo(joint, value);
        return previous;
    }

    public int move(int move) throws IllegalArgumentException, IllegalStateException {
        if (move < 0 || !now.hasLink(jointOf(move))) {
            throw new IllegalArgumentException("there is no joint for the move");
        }
        if (!isFreeNow() || !leadsToFree(move)) {
            throw new IllegalStateException("the move is not possible");
        }
        beginTurn();
        now.turnBy(jointOf(move), turnOf(move));
        return now.valueOf(jointOf(move));
    }

    public int moves() {
        if (!isFreeNow()) {
            return 0;
        }
        int set = 0;
        for (int move = 0; move < 2 * now.links && move < MAX_MOVES; move++) {
            if (leadsToFree(move)) {
                set |= 1 << move;
            }
        }
        return set;
    }

    public int tip(boolean isY) {
        walk.along(now, now.value);
        return isY ? walk.tipY : walk.tipX;
    }

    public int fault() {
        walk.along(now, now.value);
        return walk.firstFault;
    }

    public int faultyLink() throws NoSuchElementException {
        walk.along(now, now.value);
        if (walk.firstFault == 0) {
            throw new NoSuchElementException("the pose is free");
        }
        return walk.firstLink;
    }

    public int linksAt(int x, int y) throws IndexOutOfBoundsException {
        requireCell(x, y);
        walk.along(now, now.value);
        int set = 0;
        for (int link = 0; link < now.links && link < MAX_LINKS; link++) {
            for (int step = 0; step <= now.length[link]; step++) {
                if (walk.cellX(link, step) == x && walk.cellY(link, step) == y) {
                    set |= 1 << link;
                }
            }
        }
        return set;
    }

    public int poseNumber() {
        return now.numberOf(now.value);
    }

    public int clearance() throws NoSuchElementException {
        if (now.links <= 0 || now.obstacles <= 0) {
            throw new NoSuchElementException("there are no links or no obstacles");
        }
        walk.along(now, now.value);
        int least = NEVER;
        for (int link = 0; link < now.links && link < MAX_LINKS; link++) {
            for (int step = 0; step <= now.length[link]; step++) {
                least = Math.min(least, distanceToObstacles(walk.cellX(link, step), walk.cellY(link, step)));
            }
        }
        return least;
    }

    public int winding() {
        int sum = 0;
        for (int joint = 0; joint < now.links && joint < MAX_LINKS; joint++) {
            sum += now.value[joint];
        }
        return Math.floorDiv(sum, 8);
    }

    // ---- all poses

    public int freePoses() throws IllegalStateException {
        surveyPoses();
        int free = 0;
        for (int pose = 0; pose < space.poses; pose++) {
            if (space.isFree(pose)) {
                free++;
            }
        }
        return free;
    }

    public int poseValue(int pose, int joint) throws IndexOutOfBoundsException {
        if (pose < 0 || pose >= now.poses() || !now.hasLink(joint) || joint >= MAX_LINKS) {
            throw new IndexOutOfBoundsException("no such pose or joint");
        }
        now.readPose(pose, trial);
        return trial[joint];
    }

    public boolean isFreePose(int pose) throws IndexOutOfBoundsException {
        requirePose(pose);
        now.readPose(pose, trial);
        walk.along(now, trial);
        return walk.firstFault == 0;
    }

    public int posesAt(int x, int y) throws IndexOutOfBoundsException, IllegalStateException {
        requireCell(x, y);
        surveyPoses();
        int found = 0;
        for (int pose = 0; pose < space.poses; pose++) {
            if (space.tipOf(pose) == cellNumber(x, y)) {
                found++;
            }
        }
        return found;
    }

    public int connected() throws IllegalStateException {
        searchFromPresent();
        return space.reached;
    }

    public int reachableCells() throws IllegalStateException {
        searchFromPresent();
        tallyTips();
        int different = 0;
        for (int cell = 0; cell < CELLS; cell++) {
            if (tally[cell] > 0) {
                different++;
            }
        }
        return different;
    }

    public int favorite(boolean isY) throws IllegalStateException, NoSuchElementException {
        searchFromPresent();
        requireReached();
        tallyTips();
        int best = 0;
        for (int cell = 1; cell < CELLS; cell++) {
            // Cell numbers grow with x and then with y, so the first one of the greatest counts.
            if (tally[cell] > tally[best]) {
                best = cell;
            }
        }
        return isY ? cellY(best) : cellX(best);
    }

    public int farthest() throws IllegalStateException, NoSuchElementException {
        searchFromPresent();
        requireReached();
        return space.distanceOf(space.reachedPose(space.reached - 1));
    }

    public int groups() throws IllegalStateException {
        surveyPoses();
        space.beginSearch();
        int groups = 0;
        for (int pose = 0; pose < space.poses; pose++) {
            int before = space.reached;
            space.reach(pose, 0);
            if (space.reached > before) {
                groups++;
                space.spread(before);
            }
        }
        return groups;
    }

    public double freedom() throws IllegalStateException, ArithmeticException {
        surveyPoses();
        int free = 0;
        int possible = 0;
        for (int pose = 0; pose < space.poses; pose++) {
            if (space.isFree(pose)) {
                free++;
                possible += space.movesFrom(pose);
            }
        }
        if (free == 0) {
            throw new ArithmeticException("there is no free pose");
        }
        return (double) possible / (double) free;
    }

    // ---- paths

    public int planToPose(int pose) throws IndexOutOfBoundsException, IllegalStateException, NoSuchElementException {
        requirePose(pose);
        surveyPoses();
        return planBestToPose(pose);
    }

    public int planToCell(int x, int y)
            throws IndexOutOfBoundsException, IllegalStateException, NoSuchElementException {
        requireCell(x, y);
        surveyPoses();
        searchFromTips(x, y, 0);
        return takeBest();
    }

    public int planSmooth(int x, int y)
            throws IndexOutOfBoundsException, IllegalStateException, NoSuchElementException {
        requireCell(x, y);
        surveyPoses();
        searchFromTips(x, y, 0);
        requireWay();
        space.weighChanges();
        route.begin(now.numberOf(now.value));
        space.descendSmoothly(route);
        return route.changes();
    }

    public int planNear(int x, int y)
            throws IndexOutOfBoundsException, IllegalStateException, NoSuchElementException {
        requireCell(x, y);
        searchFromPresent();
        requireReached();
        int least = 2 * REACH;
        for (int i = 0; i < space.reached; i++) {
            int tip = space.tipOf(space.reachedPose(i));
            least = Math.min(least, distance(cellX(tip), cellY(tip), x, y));
        }
        searchFromTips(x, y, least);
        takeBest();
        return least;
    }

    public int pathLength() throws NoSuchElementException {
        requirePath();
        return route.size;
    }

    public int pathMove(int index) throws NoSuchElementException {
        requirePath();
        if (index < 0 || index >= route.size) {
            throw new NoSuchElementException("the path has no such move");
        }
        return route.stepAt(index);
    }

    public int pathChanges() throws NoSuchElementException {
        requirePath();
        return route.changes();
    }

    public int follow(int moves) throws IllegalArgumentException, NoSuchElementException {
        if (moves < 0) {
            throw new IllegalArgumentException("moves is negative");
        }
        requirePath();
        int end = route.position + Math.min(moves, route.size - route.position);
        for (int i = route.position; i < end; i++) {
            int step = route.stepAt(i);
            now.turnBy(jointOf(step), turnOf(step));
        }
        route.position = end;
        return route.size - end;
    }

    public int back(int moves) throws IllegalArgumentException, NoSuchElementException {
        if (moves < 0) {
            throw new IllegalArgumentException("moves is negative");
        }
        requirePath();
        int end = route.position - Math.min(moves, route.position);
        for (int i = route.position - 1; i >= end; i--) {
            int step = route.stepAt(i);
            now.turnBy(jointOf(step), -turnOf(step));
        }
        route.position = end;
        return end;
    }

    public int pathCells() throws NoSuchElementException {
        requirePath();
        Arrays.fill(tally, 0);
        int different = 0;
        int pose = route.start;
        for (int i = 0; i <= route.size; i++) {
            int tip = space.tipOf(pose);
            if (isCellNumber(tip) && tally[tip] == 0) {
                tally[tip] = 1;
                different++;
            }
            if (i < route.size) {
                pose = space.after(pose, route.stepAt(i));
            }
        }
        return different;
    }

    // ---- bookmarks, texts, history and saving

    public int bookmark(char name) throws IllegalArgumentException, IllegalStateException {
        requireName(name);
        if (!bookmarks.has(name - 'a') && bookmarks.names >= MAX_NAMES) {
            throw new IllegalStateException("6 other names are used");
        }
        bookmarks.put(name - 'a', now);
        return bookmarks.names;
    }

    public int planToName(char name)
            throws IllegalArgumentException, UnsupportedOperationException, IllegalStateException,
            NoSuchElementException {
        requireName(name);
        if (!bookmarks.suits(name - 'a', now)) {
            throw new UnsupportedOperationException("the name is not used, or its pose does not suit");
        }
        surveyPoses();
        bookmarks.readValues(name - 'a', trial);
        return planBestToPose(now.numberOf(trial));
    }

    public int append(char character) throws IllegalArgumentException, IllegalStateException {
        if (character < 32 || character > 126) {
            throw new IllegalArgumentException("the character code is out of range");
        }
        if (input.size >= MAX_INPUT) {
            throw new IllegalStateException("the input has 60 characters");
        }
        input.put(character);
        return input.size;
    }

    public int read() throws IllegalArgumentException, IllegalStateException {
        int error = input.errorPlace();
        draft.copyFrom(now);
        int entries = error < 0 ? input.enter(draft) : 0;
        input.size = 0;
        if (error >= 0) {
            keptError = error;
            throw new IllegalArgumentException("the input is not a text of this kind");
        }
        if (entries < 0) {
            throw new IllegalStateException("a link or an obstacle cannot be added");
        }
        beginChange();
        now.copyFrom(draft);
        return entries;
    }

    public int errorPosition() throws NoSuchElementException {
        if (keptError < 0) {
            throw new NoSuchElementException("no error position was kept");
        }
        return keptError;
    }

    public int undo() throws NoSuchElementException {
        if (history.changes <= 0) {
            throw new NoSuchElementException("no change is remembered");
        }
        history.takeLatest(now);
        dropPlans();
        return history.changes;
    }

    public int save() {
        saved.copyFrom(now);
        hasSaved = true;
        return now.links;
    }

    public int restore() throws IllegalStateException {
        if (!hasSaved) {
            throw new IllegalStateException("nothing was saved");
        }
        now.copyFrom(saved);
        history.forget();
        dropPlans();
        return now.links;
    }

    // ---- what the methods have in common

    /** Begins a change of values alone; which poses are free does not depend on them. */
    private void beginTurn() {
        history.remember(now);
        route.planned = false;
    }

    private void beginChange() {
        history.remember(now);
        dropPlans();
    }

    private void dropPlans() {
        route.planned = false;
        space.known = false;
    }

    private void surveyPoses() {
        if (now.poses() > MAX_POSES) {
            throw new IllegalStateException("there are more than 5000 poses");
        }
        space.survey(now);
    }

    private void searchFromPresent() {
        surveyPoses();
        space.beginSearch();
        space.reach(now.numberOf(now.value), 0);
        space.spread(0);
    }

    /** Searches backwards, from the free poses whose tip has the given distance from a cell. */
    private void searchFromTips(int x, int y, int wanted) {
        space.beginSearch();
        for (int pose = 0; pose < space.poses; pose++) {
            int tip = space.tipOf(pose);
            if (isCellNumber(tip) && distance(cellX(tip), cellY(tip), x, y) == wanted) {
                space.reach(pose, 0);
            }
        }
        space.spread(0);
    }

    private int planBestToPose(int pose) {
        space.beginSearch();
        space.reach(pose, 0);
        space.spread(0);
        return takeBest();
    }

    /** Plans the best path to the poses from which the latest search began. */
    private int takeBest() {
        requireWay();
        route.begin(now.numberOf(now.value));
        space.descend(route);
        return route.size;
    }

    private void requireWay() {
        if (space.distanceOf(now.numberOf(now.value)) < 0) {
            throw new NoSuchElementException("there is no path");
        }
    }

    private void requireReached() {
        if (space.reached <= 0) {
            throw new NoSuchElementException("the present pose is not free");
        }
    }

    private void requirePath() {
        if (!route.planned) {
            throw new NoSuchElementException("there is no path");
        }
    }

    private void requirePose(int pose) {
        if (pose < 0 || pose >= now.poses()) {
            throw new IndexOutOfBoundsException("no such pose");
        }
    }

    /** Counts in tally, for each cell, the poses found by the latest search with the tip there. */
    private void tallyTips() {
        Arrays.fill(tally, 0);
        for (int i = 0; i < space.reached; i++) {
            int tip = space.tipOf(space.reachedPose(i));
            if (isCellNumber(tip)) {
                tally[tip]++;
            }
        }
    }

    private boolean isFreeNow() {
        walk.along(now, now.value);
        return walk.firstFault == 0;
    }

    /** Whether a move stays within the limits and ends in a free pose, wherever it begins. */
    private boolean leadsToFree(int move) {
        int joint = jointOf(move);
        int value = now.valueOf(joint) + turnOf(move);
        if (joint < 0 || joint >= MAX_LINKS || !now.allows(joint, value)) {
            return false;
        }
        System.arraycopy(now.value, 0, trial, 0, MAX_LINKS);
        trial[joint] = value;
        walk.along(now, trial);
        return walk.firstFault == 0;
    }

    private int distanceToObstacles(int x, int y) {
        int least = NEVER;
        for (int i = 0; i < now.obstacles && i < MAX_OBSTACLES; i++) {
            least = Math.min(least, distance(x, y, now.obstacleX[i], now.obstacleY[i]));
        }
        return least;
    }

    private static void requireCell(int x, int y) {
        if (!isInside(x, y)) {
            throw new IndexOutOfBoundsException("the cell is outside of the area");
        }
    }

    private static void requireName(char name) {
        if (name < 'a' || name > 'z') {
            throw new IllegalArgumentException("the name is out of range");
        }
    }

    private static boolean isLimit(int limit) {
        return limit >= 0 && limit <= MAX_LIMIT;
    }

    private static boolean isInside(int x, int y) {
        return x >= -REACH && x <= REACH && y >= -REACH && y <= REACH;
    }

    private static boolean isCellNumber(int cell) {
        return cell >= 0 && cell < CELLS;
    }

    private static int cellNumber(int x, int y) {
        return (x + REACH) * SIDE + y + REACH;
    }

    private static int cellX(int cell) {
        return cell / SIDE - REACH;
    }

    private static int cellY(int cell) {
        return cell % SIDE - REACH;
    }

    private static int distance(int x, int y, int otherX, int otherY) {
        return Math.max(Math.abs(x - otherX), Math.abs(y - otherY));
    }

    private static int jointOf(int move) {
        return move >> 1;
    }

    private static int turnOf(int move) {
        return (move & 1) == 0 ? -1 : 1;
    }

    /** The links with limits and values, and the obstacles: what history and saving keep. */
    private static final class Scene {
        int links = 0;
        final int[] length = new int[MAX_LINKS];
        final int[] lower = new int[MAX_LINKS];
        final int[] upper = new int[MAX_LINKS];
        final int[] value = new int[MAX_LINKS];
        int obstacles = 0;
        final int[] obstacleX = new int[MAX_OBSTACLES];
        final int[] obstacleY = new int[MAX_OBSTACLES];
        /** Bit x + REACH of row y + REACH tells whether the cell is an obstacle. */
        final int[] blocked = new int[SIDE];

        void copyFrom(Scene other) {
            if (other == null) {
                return;
            }
            links = other.links;
            System.arraycopy(other.length, 0, length, 0, MAX_LINKS);
            System.arraycopy(other.lower, 0, lower, 0, MAX_LINKS);
            System.arraycopy(other.upper, 0, upper, 0, MAX_LINKS);
            System.arraycopy(other.value, 0, value, 0, MAX_LINKS);
            obstacles = other.obstacles;
            System.arraycopy(other.obstacleX, 0, obstacleX, 0, MAX_OBSTACLES);
            System.arraycopy(other.obstacleY, 0, obstacleY, 0, MAX_OBSTACLES);
            System.arraycopy(other.blocked, 0, blocked, 0, SIDE);
        }

        void empty() {
            links = 0;
            obstacles = 0;
            Arrays.fill(blocked, 0);
        }

        boolean hasLink(int link) {
            return link >= 0 && link < links && link < MAX_LINKS;
        }

        /** Adds a link, and tells whether there was room. */
        boolean attach(int newLength, int down, int up) {
            if (links < 0 || links >= MAX_LINKS) {
                return false;
            }
            length[links] = newLength;
            lower[links] = -down;
            upper[links] = up;
            value[links] = 0;
            links++;
            return true;
        }

        void detach() {
            if (links > 0) {
                links--;
            }
        }

        void limit(int joint, int down, int up) {
            if (!hasLink(joint) || joint >= MAX_LINKS) {
                return;
            }
            lower[joint] = -down;
            upper[joint] = up;
            value[joint] = Math.max(-down, Math.min(up, value[joint]));
        }

        int valueOf(int joint) {
            return joint >= 0 && joint < MAX_LINKS ? value[joint] : 0;
        }

        boolean allows(int joint, int newValue) {
            return hasLink(joint) && newValue >= lower[joint] && newValue <= upper[joint];
        }

        void turnTo(int joint, int newValue) {
            if (hasLink(joint)) {
                value[joint] = newValue;
            }
        }

        void turnBy(int joint, int turn) {
            if (hasLink(joint)) {
                value[joint] += turn;
            }
        }

        boolean isBlocked(int x, int y) {
            return isInside(x, y) && (blocked[y + REACH] >> (x + REACH) & 1) != 0;
        }

        /** Adds an obstacle, and tells whether that is allowed. */
        boolean block(int x, int y) {
            if (!isInside(x, y) || x == 0 && y == 0 || isBlocked(x, y)
                    || obstacles < 0 || obstacles >= MAX_OBSTACLES) {
                return false;
            }
            obstacleX[obstacles] = x;
            obstacleY[obstacles] = y;
            obstacles++;
            blocked[y + REACH] |= 1 << (x + REACH);
            return true;
        }

        void unblock(int x, int y) {
            if (!isBlocked(x, y)) {
                return;
            }
            blocked[y + REACH] &= ~(1 << (x + REACH));
            int left = 0;
            for (int i = 0; i < obstacles && i < MAX_OBSTACLES; i++) {
                if (obstacleX[i] != x || obstacleY[i] != y) {
                    obstacleX[left] = obstacleX[i];
                    obstacleY[left] = obstacleY[i];
                    left++;
                }
            }
            obstacles = left;
        }

        int wholeLength() {
            int sum = 0;
            for (int link = 0; link < links && link < MAX_LINKS; link++) {
                sum += length[link];
            }
            return sum;
        }

        /** How many values a joint can have; always positive. */
        int span(int joint) {
            return hasLink(joint) ? Math.max(1, upper[joint] - lower[joint] + 1) : 1;
        }

        int poses() {
            int product = 1;
            for (int joint = 0; joint < links && joint < MAX_LINKS; joint++) {
                product *= span(joint);
            }
            return product;
        }

        int numberOf(int[] values) {
            int number = 0;
            for (int joint = 0; joint < links && joint < MAX_LINKS && joint < values.length; joint++) {
                number = number * span(joint) + values[joint] - lower[joint];
            }
            return number;
        }

        /** Puts the values of the pose with a number into a row. */
        void readPose(int number, int[] values) {
            int rest = number;
            for (int joint = Math.min(links, MAX_LINKS) - 1; joint >= 0; joint--) {
                int span = span(joint);
                if (span > 0 && joint < values.length) {
                    values[joint] = lower[joint] + rest % span;
                    rest /= span;
                }
            }
        }
    }

    /** Goes along the arm in one pose, and finds its first fault and its tip. */
    private static final class Walk {
        int firstFault = 0;
        int firstLink = 0;
        int tipX = 0;
        int tipY = 0;
        final int[] beginX = new int[MAX_LINKS];
        final int[] beginY = new int[MAX_LINKS];
        final int[] direction = new int[MAX_LINKS];
        /** Bit x + REACH of row y + REACH tells whether the walk has been in the cell. */
        private final int[] trodden = new int[SIDE];

        void along(Scene scene, int[] values) {
            firstFault = 0;
            firstLink = 0;
            tipX = 0;
            tipY = 0;
            Arrays.fill(trodden, 0);
            trodden[REACH] = 1 << REACH;
            int heading = 0;
            for (int link = 0; link < scene.links && link < MAX_LINKS && link < values.length; link++) {
                heading = (heading + values[link]) & 7;
                direction[link] = heading;
                beginX[link] = tipX;
                beginY[link] = tipY;
                for (int step = 0; step < scene.length[link]; step++) {
                    tipX += STEP_X[heading];
                    tipY += STEP_Y[heading];
                    enterCell(scene, link);
                }
            }
        }

        // A link shares with those before it only its beginning if the walk never comes back to a cell,
        // and the first link that comes back is the lowest one with a cell in common with one before it.
        private void enterCell(Scene scene, int link) {
            if (!isInside(tipX, tipY)) {
                note(1, link);
                return;
            }
            int row = tipY + REACH;
            int bit = 1 << (tipX + REACH);
            if ((scene.blocked[row] & bit) != 0) {
                note(2, link);
            } else if ((trodden[row] & bit) != 0) {
                note(3, link);
            }
            trodden[row] |= bit;
        }

        private void note(int fault, int link) {
            if (firstFault == 0 || fault < firstFault) {
                firstFault = fault;
                firstLink = link;
            }
        }

        int cellX(int link, int step) {
            return link >= 0 && link < MAX_LINKS ? beginX[link] + step * STEP_X[direction[link] & 7] : 0;
        }

        int cellY(int link, int step) {
            return link >= 0 && link < MAX_LINKS ? beginY[link] + step * STEP_Y[direction[link] & 7] : 0;
        }
    }

    /** All poses of a scene with at most MAX_POSES of them, and searches through the free ones. */
    private static final class Space {
        /** Whether the tips below are those of the present scene. */
        boolean known = false;
        int poses = 0;
        private int links = 0;
        private final int[] span = new int[MAX_LINKS];
        /** How far apart the numbers of two poses are that differ by 1 in a joint. */
        private final int[] stride = new int[MAX_LINKS];
        /** The number of the cell of the tip for each pose, or -1 if the pose is not free. */
        private final int[] tip = new int[MAX_POSES];
        /** The number of moves from where the search began, or -1. */
        private final int[] distance = new int[MAX_POSES];
        /** The poses that the search found, by their distance. */
        private final int[] found = new int[MAX_POSES];
        int reached = 0;
        /** For a pose and a first move, the fewest changes of a shortest path that goes on so. */
        private final int[] changes = new int[MAX_POSES * MAX_MOVES];
        private final Walk walk = new Walk();
        private final int[] values = new int[MAX_LINKS];

        void survey(Scene scene) {
            if (known) {
                return;
            }
            links = Math.min(scene.links, MAX_LINKS);
            poses = Math.min(scene.poses(), MAX_POSES);
            int product = 1;
            for (int joint = links - 1; joint >= 0; joint--) {
                span[joint] = scene.span(joint);
                stride[joint] = product;
                product *= scene.span(joint);
            }
            for (int pose = 0; pose < poses; pose++) {
                scene.readPose(pose, values);
                walk.along(scene, values);
                tip[pose] = walk.firstFault == 0 ? cellNumber(walk.tipX, walk.tipY) : -1;
            }
            known = true;
        }

        boolean isPose(int pose) {
            return pose >= 0 && pose < poses && pose < MAX_POSES;
        }

        int tipOf(int pose) {
            return isPose(pose) ? tip[pose] : -1;
        }

        boolean isFree(int pose) {
            return tipOf(pose) >= 0;
        }

        int distanceOf(int pose) {
            return isPose(pose) ? distance[pose] : -1;
        }

        int reachedPose(int index) {
            return index >= 0 && index < reached && index < MAX_POSES ? found[index] : -1;
        }

        /** The pose behind a move, or -1 if the limits or a fault forbid it. */
        int after(int pose, int move) {
            int joint = jointOf(move);
            if (!isPose(pose) || joint < 0 || joint >= links || joint >= MAX_LINKS
                    || stride[joint] <= 0 || span[joint] <= 0) {
                return -1;
            }
            int place = pose / stride[joint] % span[joint] + turnOf(move);
            if (place < 0 || place >= span[joint]) {
                return -1;
            }
            int next = pose + turnOf(move) * stride[joint];
            return isPose(next) && tip[next] >= 0 ? next : -1;
        }

        int movesFrom(int pose) {
            int possible = 0;
            for (int move = 0; move < MAX_MOVES; move++) {
                if (after(pose, move) >= 0) {
                    possible++;
                }
            }
            return possible;
        }

        void beginSearch() {
            Arrays.fill(distance, -1);
            reached = 0;
        }

        /** Adds a pose to the search, unless it is not free or was found before. */
        void reach(int pose, int moves) {
            if (isPose(pose) && tip[pose] >= 0 && distance[pose] < 0 && reached >= 0 && reached < MAX_POSES) {
                distance[pose] = moves;
                found[reached] = pose;
                reached++;
            }
        }

        /** Goes on with the search, from the found pose with an index on. */
        void spread(int from) {
            for (int i = Math.max(from, 0); i < reached && i < MAX_POSES; i++) {
                int pose = found[i];
                for (int move = 0; move < MAX_MOVES; move++) {
                    reach(after(pose, move), distanceOf(pose) + 1);
                }
            }
        }

        /** The pose behind a move that leads one move nearer to where the search began, or -1. */
        private int nearer(int pose, int move) {
            int next = after(pose, move);
            return next >= 0 && distanceOf(next) == distanceOf(pose) - 1 ? next : -1;
        }

        /** Takes the first one of the nearer moves, again and again. */
        void descend(Route route) {
            int pose = route.start;
            for (int left = distanceOf(pose); left > 0; left--) {
                int best = 0;
                while (best < MAX_MOVES - 1 && nearer(pose, best) < 0) {
                    best++;
                }
                route.add(best);
                pose = nearer(pose, best);
            }
        }

        /** Fills the changes, from where the search began on, so that each pose finds the nearer ones done. */
        void weighChanges() {
            for (int i = 0; i < reached && i < MAX_POSES; i++) {
                int pose = found[i];
                for (int move = 0; move < MAX_MOVES && isPose(pose); move++) {
                    changes[pose * MAX_MOVES + move] = weight(pose, move);
                }
            }
        }

        private int weight(int pose, int move) {
            int next = nearer(pose, move);
            if (next < 0) {
                return NEVER;
            }
            return distanceOf(next) == 0 ? 0 : weightBehind(next, smoothest(next, move), move);
        }

        /** The changes of the rest if it begins with a move behind another one. */
        private int weightBehind(int pose, int move, int before) {
            if (!isPose(pose) || move < 0 || move >= MAX_MOVES) {
                return NEVER;
            }
            return changes[pose * MAX_MOVES + move] + (move == before ? 0 : 1);
        }

        /** The first one of the moves with the fewest changes behind another move. */
        private int smoothest(int pose, int before) {
            int best = 0;
            for (int move = 1; move < MAX_MOVES; move++) {
                if (weightBehind(pose, move, before) < weightBehind(pose, best, before)) {
                    best = move;
                }
            }
            return best;
        }

        void descendSmoothly(Route route) {
            int pose = route.start;
            int before = -1;
            for (int left = distanceOf(pose); left > 0; left--) {
                before = smoothest(pose, before);
                route.add(before);
                pose = nearer(pose, before);
            }
        }
    }

    /** The path that was planned, if any. */
    private static final class Route {
        boolean planned = false;
        /** The number of the pose where the path begins. */
        int start = 0;
        int size = 0;
        int position = 0;
        private final int[] steps = new int[MAX_POSES];

        void begin(int pose) {
            planned = true;
            start = pose;
            size = 0;
            position = 0;
        }

        void add(int move) {
            if (size >= 0 && size < MAX_POSES) {
                steps[size] = move;
                size++;
            }
        }

        int stepAt(int index) {
            return index >= 0 && index < size && index < MAX_POSES ? steps[index] : -1;
        }

        int changes() {
            int different = 0;
            for (int i = 1; i < size; i++) {
                if (stepAt(i) != stepAt(i - 1)) {
                    different++;
                }
            }
            return different;
        }
    }

    /** The poses that have names; a name is told by its place in the alphabet. */
    private static final class Bookmarks {
        int names = 0;
        private final boolean[] used = new boolean[LETTERS];
        private final int[] joints = new int[LETTERS];
        private final int[] values = new int[LETTERS * MAX_LINKS];

        boolean has(int letter) {
            return letter >= 0 && letter < LETTERS && used[letter];
        }

        void put(int letter, Scene scene) {
            if (letter < 0 || letter >= LETTERS) {
                return;
            }
            if (!used[letter]) {
                used[letter] = true;
                names++;
            }
            joints[letter] = scene.links;
            System.arraycopy(scene.value, 0, values, letter * MAX_LINKS, MAX_LINKS);
        }

        /** Whether the pose under a name is one of the scene's. */
        boolean suits(int letter, Scene scene) {
            if (!has(letter) || joints[letter] != scene.links) {
                return false;
            }
            for (int joint = 0; joint < scene.links && joint < MAX_LINKS; joint++) {
                if (!scene.allows(joint, values[letter * MAX_LINKS + joint])) {
                    return false;
                }
            }
            return true;
        }

        void readValues(int letter, int[] row) {
            if (has(letter) && row.length >= MAX_LINKS) {
                System.arraycopy(values, letter * MAX_LINKS, row, 0, MAX_LINKS);
            }
        }
    }

    /** The scenes just before the latest changes, the oldest one first. */
    private static final class History {
        int changes = 0;
        private int oldest = 0;
        private final Scene[] past = new Scene[MAX_CHANGES];

        History() {
            for (int i = 0; i < MAX_CHANGES; i++) {
                past[i] = new Scene();
            }
        }

        void forget() {
            changes = 0;
        }

        void remember(Scene scene) {
            Scene room = past[(oldest + changes) & (MAX_CHANGES - 1)];
            if (room != null) {
                room.copyFrom(scene);
            }
            if (changes < MAX_CHANGES) {
                changes++;
            } else {
                oldest = (oldest + 1) & (MAX_CHANGES - 1);
            }
        }

        void takeLatest(Scene scene) {
            if (changes > 0) {
                changes--;
                scene.copyFrom(past[(oldest + changes) & (MAX_CHANGES - 1)]);
            }
        }
    }

    /** The input, and how it is read. */
    private static final class Input {
        int size = 0;
        private final char[] signs = new char[MAX_INPUT];
        private final int[] numbers = new int[3];

        void put(char sign) {
            if (size >= 0 && size < MAX_INPUT) {
                signs[size] = sign;
                size++;
            }
        }

        private char signAt(int index) {
            return index >= 0 && index < size && index < MAX_INPUT ? signs[index] : ' ';
        }

        /** The error position of the input, or -1 if it is a text. */
        int errorPlace() {
            int state = 0;
            for (int i = 0; i < size; i++) {
                state = stateBehind(state, signAt(i));
                if (state < 0) {
                    return i;
                }
            }
            return size > 0 && state == 0 ? -1 : size;
        }

        /** The state behind one more sign, or -1 if no text goes on so; 0 is the state between entries. */
        private static int stateBehind(int state, char sign) {
            switch (state) {
                case 0:
                    return sign == 'L' ? 1 : sign == 'O' ? 9 : -1;
                case 1:
                    return isDigit(sign, '1', '5') ? 2 : -1;
                case 2:
                    return sign == '(' ? 3 : -1;
                case 3:
                    return sign == '-' ? 4 : -1;
                case 4:
                    return isDigit(sign, '0', '8') ? 5 : -1;
                case 5:
                    return sign == ',' ? 6 : -1;
                case 6:
                    return isDigit(sign, '0', '8') ? 7 : -1;
                case 7:
                    return sign == ')' ? 8 : -1;
                case 8:
                    return sign == ';' ? 0 : -1;
                default:
                    return stateInObstacle(state, sign);
            }
        }

        /** The states 9 to 12 are those of x, 13 to 16 those of y: before it, in it behind -, 1, its end. */
        private static int stateInObstacle(int state, char sign) {
            int first = state < 13 ? 9 : 13;
            int place = state - first;
            if (place < 0 || place > 3) {
                return -1;
            }
            if (place == 0 && sign == '-') {
                return first + 1;
            }
            if (place <= 1) {
                return sign == '1' ? first + 2 : isDigit(sign, '0', '9') ? first + 3 : -1;
            }
            if (place == 2 && sign == '0') {
                return first + 3;
            }
            if (first == 9) {
                return sign == ',' ? 13 : -1;
            }
            return sign == ';' ? 0 : -1;
        }

        private static boolean isDigit(char sign, char least, char greatest) {
            return sign >= least && sign <= greatest;
        }

        /** Adds what the input, which is a text, tells to a scene; the number of entries, or -1 if one fails. */
        int enter(Scene scene) {
            int entries = 0;
            int begin = 0;
            for (int i = 0; i < size; i++) {
                if (signAt(i) == ';') {
                    readNumbers(begin + 1, i);
                    boolean added = signAt(begin) == 'L'
                            ? scene.attach(numbers[0], -numbers[1], numbers[2])
                            : scene.block(numbers[0], numbers[1]);
                    if (!added) {
                        return -1;
                    }
                    entries++;
                    begin = i + 1;
                }
            }
            return entries;
        }

        /** Reads the numbers of an entry, between which there are other signs than digits. */
        private void readNumbers(int from, int to) {
            Arrays.fill(numbers, 0);
            int which = 0;
            int sign = 1;
            for (int i = from; i < to; i++) {
                char c = signAt(i);
                if (c == '-') {
                    sign = -1;
                } else if (isDigit(c, '0', '9')) {
                    if (which < numbers.length) {
                        numbers[which] = numbers[which] * 10 + sign * (c - '0');
                    }
                } else if (isDigit(signAt(i - 1), '0', '9')) {
                    which++;
                    sign = 1;
                }
            }
        }
    }
}
