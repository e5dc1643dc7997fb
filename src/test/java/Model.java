import java.util.ArrayList;
import java.util.Arrays;
import java.util.HashMap;
import java.util.HashSet;
import java.util.LinkedHashMap;
import java.util.List;
import java.util.Map;
import java.util.NoSuchElementException;
import java.util.Set;
import java.util.TreeMap;
import java.util.regex.Matcher;
import java.util.regex.Pattern;

/** The document once more, written as plainly as can be and with other means than the program. */
public final class Model {
    private static final int[][] DIRECTIONS = {{1, 0}, {1, 1}, {0, 1}, {-1, 1}, {-1, 0}, {-1, -1}, {0, -1}, {1, -1}};
    private static final Pattern TEXT =
            Pattern.compile("(?:L[1-5]\\(-[0-8],[0-8]\\);|O-?(?:10|[0-9]),-?(?:10|[0-9]);)+");

    /** Links are rows of length, lower limit, upper limit and value. */
    private record Scene(List<int[]> links, List<List<Integer>> obstacles) {
        Scene copy() {
            List<int[]> rows = new ArrayList<>();
            for (int[] link : links) {
                rows.add(link.clone());
            }
            return new Scene(rows, new ArrayList<>(obstacles));
        }

        String key() {
            StringBuilder key = new StringBuilder(obstacles.toString());
            for (int[] link : links) {
                key.append(Arrays.toString(Arrays.copyOf(link, 3)));
            }
            return key.toString();
        }
    }

    private Scene now = new Scene(new ArrayList<>(), new ArrayList<>());
    private Scene saved;
    private final List<Scene> history = new ArrayList<>();
    private final Map<Character, List<Integer>> names = new TreeMap<>();
    private String input = "";
    private int error = -1;
    private List<Integer> path;
    private List<Integer> pathStart;
    private int position;
    private String freeKey;
    private Map<List<Integer>, List<Integer>> free;

    // ---- links and obstacles

    public int clear() {
        int links = now.links.size();
        now = new Scene(new ArrayList<>(), new ArrayList<>());
        history.clear();
        path = null;
        return links;
    }

    private void change() {
        history.add(now.copy());
        if (history.size() > 8) {
            history.remove(0);
        }
        path = null;
    }

    private static void argument(boolean fine) {
        if (!fine) {
            throw new IllegalArgumentException();
        }
    }

    private static void state(boolean fine) {
        if (!fine) {
            throw new IllegalStateException();
        }
    }

    private static void index(boolean fine) {
        if (!fine) {
            throw new IndexOutOfBoundsException();
        }
    }

    private static void element(boolean fine) {
        if (!fine) {
            throw new NoSuchElementException();
        }
    }

    private static boolean limit(int number) {
        return 0 <= number && number <= 8;
    }

    private static boolean inArea(int x, int y) {
        return -10 <= x && x <= 10 && -10 <= y && y <= 10;
    }

    private void hasJoint(int joint) {
        index(joint >= 0 && joint < now.links.size());
    }

    public int addLink(int length, int down, int up) {
        argument(1 <= length && length <= 5 && limit(down) && limit(up));
        state(now.links.size() < 4);
        change();
        now.links.add(new int[] {length, -down, up, 0});
        return now.links.size() - 1;
    }

    public int removeLink() {
        state(!now.links.isEmpty());
        change();
        now.links.remove(now.links.size() - 1);
        return now.links.size();
    }

    public int setLimits(int joint, int down, int up) {
        hasJoint(joint);
        argument(limit(down) && limit(up));
        change();
        int[] link = now.links.get(joint);
        link[1] = -down;
        link[2] = up;
        while (link[3] < link[1]) {
            link[3]++;
        }
        while (link[3] > link[2]) {
            link[3]--;
        }
        return link[3];
    }

    public int addObstacle(int x, int y) {
        index(inArea(x, y));
        argument(x != 0 || y != 0);
        state(now.obstacles.size() < 60 && !now.obstacles.contains(List.of(x, y)));
        change();
        now.obstacles.add(List.of(x, y));
        return now.obstacles.size();
    }

    public int removeObstacle(int x, int y) {
        index(inArea(x, y));
        element(now.obstacles.contains(List.of(x, y)));
        change();
        now.obstacles.remove(List.of(x, y));
        return now.obstacles.size();
    }

    public int count(int what) {
        argument(0 <= what && what <= 3);
        int poses = 1;
        int lengths = 0;
        for (int[] link : now.links) {
            poses *= link[2] - link[1] + 1;
            lengths += link[0];
        }
        return List.of(now.links.size(), now.obstacles.size(), poses, lengths).get(what);
    }

    public int joint(int joint, int what) {
        hasJoint(joint);
        argument(0 <= what && what <= 7);
        int[] link = now.links.get(joint);
        List<Integer> begin = cells(values()).get(joint).get(0);
        return List.of(link[3], link[1], link[2], link[0], direction(values(), joint), begin.get(0), begin.get(1),
                (link[3] + 80) % 8).get(what);
    }

    public boolean isObstacle(int x, int y) {
        index(inArea(x, y));
        return now.obstacles.contains(List.of(x, y));
    }

    public int obstacle(int index, boolean isY) {
        index(index >= 0 && index < now.obstacles.size());
        return now.obstacles.get(index).get(isY ? 1 : 0);
    }

    // ---- poses

    private List<Integer> values() {
        List<Integer> values = new ArrayList<>();
        for (int[] link : now.links) {
            values.add(link[3]);
        }
        return values;
    }

    private static int direction(List<Integer> values, int joint) {
        int sum = 0;
        for (int k = 0; k <= joint; k++) {
            sum += values.get(k);
        }
        return (sum + 800) % 8;
    }

    /** The cells of each link, its beginning first and its end last. */
    private List<List<List<Integer>>> cells(List<Integer> values) {
        List<List<List<Integer>>> all = new ArrayList<>();
        List<Integer> begin = List.of(0, 0);
        for (int k = 0; k < now.links.size(); k++) {
            int[] d = DIRECTIONS[direction(values, k)];
            List<List<Integer>> row = new ArrayList<>();
            for (int s = 0; s <= now.links.get(k)[0]; s++) {
                row.add(List.of(begin.get(0) + s * d[0], begin.get(1) + s * d[1]));
            }
            begin = row.get(row.size() - 1);
            all.add(row);
        }
        return all;
    }

    private List<Integer> tip(List<Integer> values) {
        List<List<List<Integer>>> all = cells(values);
        if (all.isEmpty()) {
            return List.of(0, 0);
        }
        List<List<Integer>> last = all.get(all.size() - 1);
        return last.get(last.size() - 1);
    }

    private static boolean meet(List<List<List<Integer>>> all, int low, int high) {
        Set<List<Integer>> common = new HashSet<>(all.get(low));
        common.retainAll(all.get(high));
        if (high == low + 1) {
            common.remove(all.get(high).get(0));
        }
        return !common.isEmpty();
    }

    /** The first fault and its link, or 0 and -1. */
    private int[] fault(List<Integer> values) {
        List<List<List<Integer>>> all = cells(values);
        for (int k = 0; k < all.size(); k++) {
            for (List<Integer> cell : all.get(k)) {
                if (!inArea(cell.get(0), cell.get(1))) {
                    return new int[] {1, k};
                }
            }
        }
        for (int k = 0; k < all.size(); k++) {
            for (List<Integer> cell : all.get(k)) {
                if (now.obstacles.contains(cell)) {
                    return new int[] {2, k};
                }
            }
        }
        for (int k = 0; k < all.size(); k++) {
            for (int low = 0; low < k; low++) {
                if (meet(all, low, k)) {
                    return new int[] {3, k};
                }
            }
        }
        return new int[] {0, -1};
    }

    private boolean isFree(List<Integer> values) {
        return fault(values)[0] == 0;
    }

    private List<List<Integer>> allPoses() {
        List<List<Integer>> poses = new ArrayList<>();
        poses.add(List.of());
        for (int[] link : now.links) {
            List<List<Integer>> longer = new ArrayList<>();
            for (List<Integer> pose : poses) {
                for (int v = link[1]; v <= link[2]; v++) {
                    List<Integer> more = new ArrayList<>(pose);
                    more.add(v);
                    longer.add(more);
                }
            }
            poses = longer;
        }
        return poses;
    }

    /** The free poses in their order, each with its tip. */
    private Map<List<Integer>, List<Integer>> free() {
        String key = now.key();
        if (!key.equals(freeKey)) {
            freeKey = key;
            free = new LinkedHashMap<>();
            for (List<Integer> pose : allPoses()) {
                if (isFree(pose)) {
                    free.put(pose, tip(pose));
                }
            }
        }
        return free;
    }

    private List<Integer> moved(List<Integer> pose, int move) {
        List<Integer> next = new ArrayList<>(pose);
        next.set(move / 2, next.get(move / 2) + (move % 2 == 0 ? -1 : 1));
        return next;
    }

    private boolean within(List<Integer> pose) {
        for (int k = 0; k < pose.size(); k++) {
            if (pose.get(k) < now.links.get(k)[1] || pose.get(k) > now.links.get(k)[2]) {
                return false;
            }
        }
        return true;
    }

    private boolean possible(List<Integer> pose, int move) {
        List<Integer> next = moved(pose, move);
        return isFree(pose) && within(next) && isFree(next);
    }

    private void take(List<Integer> pose) {
        for (int k = 0; k < pose.size(); k++) {
            now.links.get(k)[3] = pose.get(k);
        }
    }

    public int setValue(int joint, int value) {
        hasJoint(joint);
        int[] link = now.links.get(joint);
        argument(link[1] <= value && value <= link[2]);
        change();
        int before = now.links.get(joint)[3];
        now.links.get(joint)[3] = value;
        return before;
    }

    public int move(int move) {
        argument(move >= 0 && move < 2 * now.links.size());
        state(possible(values(), move));
        List<Integer> next = moved(values(), move);
        change();
        take(next);
        return next.get(move / 2);
    }

    public int moves() {
        int set = 0;
        for (int move = 0; move < 2 * now.links.size(); move++) {
            if (possible(values(), move)) {
                set += (int) Math.pow(2, move);
            }
        }
        return set;
    }

    public int tip(boolean isY) {
        return tip(values()).get(isY ? 1 : 0);
    }

    public int fault() {
        return fault(values())[0];
    }

    public int faultyLink() {
        element(fault() != 0);
        return fault(values())[1];
    }

    public int linksAt(int x, int y) {
        index(inArea(x, y));
        int set = 0;
        List<List<List<Integer>>> all = cells(values());
        for (int k = 0; k < all.size(); k++) {
            if (all.get(k).contains(List.of(x, y))) {
                set += 1 << k;
            }
        }
        return set;
    }

    private int number(List<Integer> pose) {
        int number = 0;
        int factor = 1;
        for (int k = pose.size() - 1; k >= 0; k--) {
            number += factor * (pose.get(k) - now.links.get(k)[1]);
            factor *= now.links.get(k)[2] - now.links.get(k)[1] + 1;
        }
        return number;
    }

    public int poseNumber() {
        return number(values());
    }

    private static int far(List<Integer> a, List<Integer> b) {
        return Math.max(Math.abs(a.get(0) - b.get(0)), Math.abs(a.get(1) - b.get(1)));
    }

    public int clearance() {
        element(!now.links.isEmpty() && !now.obstacles.isEmpty());
        int least = 1000;
        for (List<List<Integer>> link : cells(values())) {
            for (List<Integer> cell : link) {
                for (List<Integer> obstacle : now.obstacles) {
                    least = Math.min(least, far(cell, obstacle));
                }
            }
        }
        return least;
    }

    public int winding() {
        int sum = 0;
        for (int value : values()) {
            sum += value;
        }
        int winding = -100;
        while ((winding + 1) * 8 <= sum) {
            winding++;
        }
        return winding;
    }

    // ---- all poses

    private void few() {
        state(count(2) <= 5000);
    }

    public int freePoses() {
        few();
        return free().size();
    }

    public int poseValue(int pose, int joint) {
        index(pose >= 0 && pose < count(2));
        hasJoint(joint);
        return posed(pose).get(joint);
    }

    /** The pose with a number. */
    private List<Integer> posed(int number) {
        int poses = count(2);
        int rest = number;
        List<Integer> pose = new ArrayList<>();
        for (int[] link : now.links) {
            poses /= link[2] - link[1] + 1;
            pose.add(link[1] + rest / poses);
            rest = rest % poses;
        }
        return pose;
    }

    public boolean isFreePose(int pose) {
        index(pose >= 0 && pose < count(2));
        return isFree(posed(pose));
    }

    public int posesAt(int x, int y) {
        index(inArea(x, y));
        few();
        int found = 0;
        for (List<Integer> tip : free().values()) {
            found += tip.equals(List.of(x, y)) ? 1 : 0;
        }
        return found;
    }

    /** For each pose that is connected with one, the best path to it. */
    private Map<List<Integer>, List<Integer>> paths(List<Integer> from) {
        Map<List<Integer>, List<Integer>> paths = new LinkedHashMap<>();
        if (!free().containsKey(from)) {
            return paths;
        }
        paths.put(from, List.of());
        List<List<Integer>> layer = List.of(from);
        while (!layer.isEmpty()) {
            List<List<Integer>> next = new ArrayList<>();
            for (List<Integer> pose : layer) {
                for (int move = 0; move < 2 * pose.size(); move++) {
                    List<Integer> other = moved(pose, move);
                    if (free().containsKey(other) && !paths.containsKey(other)) {
                        List<Integer> way = new ArrayList<>(paths.get(pose));
                        way.add(move);
                        paths.put(other, way);
                        next.add(other);
                    }
                }
            }
            layer = next;
        }
        return paths;
    }

    private Map<List<Integer>, List<Integer>> fewPaths() {
        few();
        return paths(values());
    }

    public int connected() {
        return fewPaths().size();
    }

    private Map<List<Integer>, Integer> tips() {
        Map<List<Integer>, Integer> tips = new HashMap<>();
        for (List<Integer> pose : fewPaths().keySet()) {
            tips.merge(tip(pose), 1, Integer::sum);
        }
        return tips;
    }

    public int reachableCells() {
        return tips().size();
    }

    public int favorite(boolean isY) {
        few();
        element(fault() == 0);
        Map<List<Integer>, Integer> tips = tips();
        List<Integer> best = null;
        for (int x = -10; x <= 10; x++) {
            for (int y = -10; y <= 10; y++) {
                int times = tips.getOrDefault(List.of(x, y), 0);
                if (best == null || times > tips.getOrDefault(best, 0)) {
                    best = List.of(x, y);
                }
            }
        }
        return best.get(isY ? 1 : 0);
    }

    public int farthest() {
        few();
        element(fault() == 0);
        int most = 0;
        for (List<Integer> way : fewPaths().values()) {
            most = Math.max(most, way.size());
        }
        return most;
    }

    public int groups() {
        few();
        Set<List<Integer>> rest = new HashSet<>(free().keySet());
        int groups = 0;
        for (List<Integer> pose : free().keySet()) {
            if (rest.contains(pose)) {
                groups++;
                rest.removeAll(paths(pose).keySet());
            }
        }
        return groups;
    }

    public double freedom() {
        few();
        int sum = 0;
        for (List<Integer> pose : free().keySet()) {
            for (int move = 0; move < 2 * pose.size(); move++) {
                sum += free().containsKey(moved(pose, move)) ? 1 : 0;
            }
        }
        if (free().isEmpty()) {
            throw new ArithmeticException();
        }
        return (double) sum / (double) free().size();
    }

    // ---- paths

    private static int compare(List<Integer> a, List<Integer> b) {
        if (a.size() != b.size()) {
            return a.size() - b.size();
        }
        for (int i = 0; i < a.size(); i++) {
            if (!a.get(i).equals(b.get(i))) {
                return a.get(i) - b.get(i);
            }
        }
        return 0;
    }

    private void keep(List<Integer> way) {
        element(way != null);
        path = way;
        pathStart = values();
        position = 0;
    }

    /** The best path to poses with a tip at a distance from a cell, or null. */
    private List<Integer> best(List<Integer> cell, int distance) {
        List<Integer> best = null;
        for (Map.Entry<List<Integer>, List<Integer>> entry : paths(values()).entrySet()) {
            if (far(free().get(entry.getKey()), cell) == distance
                    && (best == null || compare(entry.getValue(), best) < 0)) {
                best = entry.getValue();
            }
        }
        return best;
    }

    public int planToPose(int pose) {
        index(pose >= 0 && pose < count(2));
        keep(fewPaths().get(posed(pose)));
        return path.size();
    }

    public int planToCell(int x, int y) {
        index(inArea(x, y));
        few();
        keep(best(List.of(x, y), 0));
        return path.size();
    }

    private static int changes(List<Integer> way) {
        int changes = 0;
        for (int i = 0; i + 1 < way.size(); i++) {
            changes += way.get(i).equals(way.get(i + 1)) ? 0 : 1;
        }
        return changes;
    }

    private static boolean smoother(List<Integer> a, List<Integer> b) {
        return b == null || changes(a) < changes(b) || changes(a) == changes(b) && compare(a, b) < 0;
    }

    public int planSmooth(int x, int y) {
        index(inArea(x, y));
        few();
        Map<List<Integer>, List<Integer>> paths = paths(values());
        List<Integer> any = best(List.of(x, y), 0);
        element(any != null);
        // The smoothest way to each pose for each last move.
        Map<List<Integer>, Map<Integer, List<Integer>>> layer = new HashMap<>();
        layer.put(values(), new HashMap<>(Map.of(-1, List.of())));
        for (int done = 0; done < any.size(); done++) {
            Map<List<Integer>, Map<Integer, List<Integer>>> next = new HashMap<>();
            for (List<Integer> pose : layer.keySet()) {
                for (int move = 0; move < 2 * pose.size(); move++) {
                    List<Integer> other = moved(pose, move);
                    if (!paths.containsKey(other) || paths.get(other).size() != done + 1) {
                        continue;
                    }
                    for (List<Integer> way : layer.get(pose).values()) {
                        List<Integer> longer = new ArrayList<>(way);
                        longer.add(move);
                        Map<Integer, List<Integer>> known = next.computeIfAbsent(other, k -> new HashMap<>());
                        if (smoother(longer, known.get(move))) {
                            known.put(move, longer);
                        }
                    }
                }
            }
            layer = next;
        }
        List<Integer> smooth = null;
        for (List<Integer> pose : layer.keySet()) {
            for (List<Integer> way : layer.get(pose).values()) {
                if (free().get(pose).equals(List.of(x, y)) && smoother(way, smooth)) {
                    smooth = way;
                }
            }
        }
        keep(smooth);
        return changes(smooth);
    }

    public int planNear(int x, int y) {
        index(inArea(x, y));
        few();
        element(fault() == 0);
        int distance = 0;
        while (best(List.of(x, y), distance) == null) {
            distance++;
        }
        keep(best(List.of(x, y), distance));
        return distance;
    }

    public int pathLength() {
        element(path != null);
        return path.size();
    }

    public int pathMove(int index) {
        element(path != null && index >= 0 && index < path.size());
        return path.get(index);
    }

    public int pathChanges() {
        element(path != null);
        return changes(path);
    }

    private void takePosition() {
        List<Integer> pose = pathStart;
        for (int i = 0; i < position; i++) {
            pose = moved(pose, path.get(i));
        }
        take(pose);
    }

    public int follow(int moves) {
        argument(moves >= 0);
        element(path != null);
        position = (int) Math.min((long) position + moves, path.size());
        takePosition();
        return path.size() - position;
    }

    public int back(int moves) {
        argument(moves >= 0);
        element(path != null);
        position = Math.max(position - moves, 0);
        takePosition();
        return position;
    }

    public int pathCells() {
        element(path != null);
        Set<List<Integer>> tips = new HashSet<>();
        List<Integer> pose = pathStart;
        tips.add(tip(pose));
        for (int move : path) {
            pose = moved(pose, move);
            tips.add(tip(pose));
        }
        return tips.size();
    }

    // ---- bookmarks, texts, history and saving

    public int bookmark(char name) {
        argument(97 <= name && name <= 122);
        state(names.containsKey(name) || names.size() < 6);
        names.put(name, values());
        return names.size();
    }

    public int planToName(char name) {
        argument(97 <= name && name <= 122);
        List<Integer> pose = names.get(name);
        if (pose == null || pose.size() != now.links.size() || !within(pose)) {
            throw new UnsupportedOperationException();
        }
        keep(fewPaths().get(pose));
        return path.size();
    }

    public int append(char character) {
        argument(32 <= character && character <= 126);
        state(input.length() < 60);
        input += character;
        return input.length();
    }

    private static int errorIn(String text) {
        for (int k = 0; k < text.length(); k++) {
            Matcher start = TEXT.matcher(text.substring(0, k + 1));
            if (!start.matches() && !start.hitEnd()) {
                return k;
            }
        }
        return text.length();
    }

    public int read() {
        String text = input;
        input = "";
        if (!TEXT.matcher(text).matches()) {
            error = errorIn(text);
            throw new IllegalArgumentException();
        }
        Model other = new Model();
        other.now = now.copy();
        String[] entries = text.split(";");
        for (String entry : entries) {
            String[] numbers = entry.substring(1).split("[(),]");
            try {
                if (entry.charAt(0) == 'L') {
                    other.addLink(Integer.parseInt(numbers[0]), -Integer.parseInt(numbers[1]),
                            Integer.parseInt(numbers[2]));
                } else {
                    other.addObstacle(Integer.parseInt(numbers[0]), Integer.parseInt(numbers[1]));
                }
            } catch (RuntimeException e) {
                throw new IllegalStateException();
            }
        }
        change();
        now = other.now;
        return entries.length;
    }

    public int errorPosition() {
        element(error >= 0);
        return error;
    }

    public int undo() {
        element(!history.isEmpty());
        now = history.remove(history.size() - 1);
        path = null;
        return history.size();
    }

    public int save() {
        saved = now.copy();
        return now.links.size();
    }

    public int restore() {
        state(saved != null);
        now = saved.copy();
        history.clear();
        path = null;
        return now.links.size();
    }
}
