import java.util.ArrayDeque;
import java.util.ArrayList;
import java.util.Deque;
import java.util.List;
import java.util.TreeSet;
import java.util.regex.Matcher;
import java.util.regex.Pattern;

/**
 * Long runs of calls on the program and on a plain model of the document, which is written in
 * another way: sets of places, chalks made coin by coin, texts read by a pattern, copied states.
 */
public final class ModelRunsTest {
    private static final int RUNS = 300;
    private static final int CALLS = 500;
    private static final int END_TURN = 1;
    private static final int LAY = 7;
    private static final Pattern COINS =
            Pattern.compile("[0-2]:(0|[1-9][0-9]?)(;[0-2]:(0|[1-9][0-9]?))*");

    private static int wrong = 0;
    private static long seed = 20260731L;

    public static void main(String[] args) {
        for (int run = 0; run < RUNS && wrong < 10; run++) {
            play(run);
        }
        System.out.println(wrong == 0 ? "the program and the model agree" : wrong + " wrong");
        if (wrong > 0) {
            System.exit(1);
        }
    }

    /** The same numbers in each run of the test. */
    private static int pick(int bound) {
        seed = seed * 6364136223846793005L + 1442695040888963407L;
        return (int) ((seed >>> 33) % bound);
    }

    private static void play(int run) {
        ShoveBeds program = new ShoveBeds();
        Model model = new Model();
        Deque<Integer> toType = new ArrayDeque<>();
        boolean greedy = run % 3 == 0;
        boolean racing = run % 3 == 1;
        for (int call = 0; call < CALLS && wrong < 10; call++) {
            int[] next;
            if (!toType.isEmpty()) {
                int code = toType.poll();
                next = code < 0 ? new int[] {-code, 0, 0, 0} : new int[] {4, code, 0, 0};
            } else if (racing && model.now.counts[6] == 0 && pick(2) == 0) {
                queueMissingChalks(toType, model);
                next = new int[] {5, 0, 0, 0};
            } else {
                next = choose(toType, greedy, model);
            }
            String due = answer(model, next);
            String got = answer(program, next);
            if (!got.equals(due)) {
                wrong++;
                System.out.println("run " + run + ", call " + call + ": " + java.util.Arrays.toString(next)
                        + " answered " + got + ", the model " + due);
            }
        }
    }

    // ---- which call comes next: its number and three arguments

    private static int[] choose(Deque<Integer> toType, boolean greedy, Model model) {
        int kind = pick(100);
        if (kind < 30) {
            if (greedy && pick(3) > 0) {
                int best = model.bestPush();
                return new int[] {0, best / 1000, best % 1000, 0};
            }
            return new int[] {0, lane(), strength(), 0};
        }
        if (kind < 36) {
            return new int[] {1, 0, 0, 0};
        }
        if (kind < 37) {
            return new int[] {2, 0, 0, 0};
        }
        if (kind < 41) {
            return new int[] {3, pick(10) == 0 ? pick(60) - 30 : pick(21), 0, 0};
        }
        if (kind < 53) {
            queueText(toType);
            return new int[] {5, 0, 0, 0};
        }
        if (kind < 54) {
            return new int[] {4, pick(140), 0, 0};
        }
        if (kind < 63) {
            return new int[] {pick(2) == 0 ? 6 : 7, 0, 0, 0};
        }
        if (kind < 70) {
            return new int[] {8 + pick(3), pick(12) == 0 ? pick(5) - 2 : pick(2), 0, 0};
        }
        if (kind < 97) {
            return look();
        }
        return new int[] {19, 0, 0, 0};
    }

    private static int[] look() {
        switch (pick(7)) {
            case 0:
                return new int[] {11, lane(), pick(24) - 2, 0};
            case 1:
                return new int[] {12, pick(11) - 1, pick(7) - 1, 0};
            case 2:
                return new int[] {13, pick(15) - 1, 0, 0};
            case 3:
                return new int[] {14, lane(), strength(), pick(12) == 0 ? pick(5) - 1 : pick(2)};
            case 4:
                return new int[] {15, lane(), strength(), 0};
            case 5:
                return new int[] {16, lane(), pick(12) == 0 ? pick(13) - 2 : pick(9), 0};
            default:
                return new int[] {17 + pick(2), 0, 0, 0};
        }
    }

    private static int lane() {
        return pick(25) == 0 ? pick(7) - 2 : pick(3);
    }

    private static int strength() {
        return pick(25) == 0 ? pick(160) - 5 : 1 + pick(150);
    }

    private static void queueText(Deque<Integer> toType) {
        StringBuilder coins = new StringBuilder();
        int many = 1 + pick(14);
        int bed = pick(9);
        for (int i = 0; i < many; i++) {
            int place = pick(3) == 0 ? pick(100) : 10 * ((bed + i / 3) % 9) + 8 + pick(5);
            coins.append(i == 0 ? "" : ";").append(i % 3).append(':').append(Math.min(place, 99));
        }
        if (pick(8) == 0) {
            coins.setCharAt(pick(coins.length()), ":;0193a".charAt(pick(7)));
        }
        for (int i = 0; i < coins.length(); i++) {
            toType.add((int) coins.charAt(i));
        }
    }

    /** Coins for the beds that are not full, the call lay and the call endTurn: games get over. */
    private static void queueMissingChalks(Deque<Integer> toType, Model model) {
        List<String> coins = new ArrayList<>();
        for (int bed = 0; bed < 9; bed++) {
            int missing = 6 - model.now.chalks[0][bed] - model.now.chalks[1][bed];
            for (int lane = 0; lane < Math.min(missing, 3) && coins.size() < 12; lane++) {
                coins.add(lane + ":" + (10 * bed + 8));
            }
        }
        String.join(";", coins).chars().forEach(toType::add);
        toType.add(-LAY);
        toType.add(-END_TURN);
    }

    // ---- one call, and its answer as a text

    private static String answer(ShoveBeds b, int[] c) {
        try {
            switch (c[0]) {
                case 0: return "" + b.push(c[1], c[2]);
                case 1: return "" + b.endTurn();
                case 2: return "" + b.begin();
                case 3: return "" + b.set(c[1]);
                case 4: return "" + b.append(c[1]);
                case 5: return "" + b.clearBuffer();
                case 6: return "" + b.firstError();
                case 7: return "" + b.lay();
                case 8: return "" + b.keep(c[1]);
                case 9: return "" + b.goBack(c[1]);
                case 10: return "" + b.undo();
                case 11: return "" + b.coin(c[1], c[2]);
                case 12: return "" + b.bedOf(c[1], c[2]);
                case 13: return "" + b.count(c[1]);
                case 14: return "" + b.ends(c[1], c[2], c[3]);
                case 15: return "" + b.ifPushed(c[1], c[2]);
                case 16: return "" + b.strengthFor(c[1], c[2]);
                case 17: return "" + b.bestPush();
                case 18: return "" + b.fullness() + " " + b.setting();
                default: return "" + b.digest();
            }
        } catch (RuntimeException e) {
            return e.getClass().getName();
        }
    }

    private static String answer(Model m, int[] c) {
        try {
            switch (c[0]) {
                case 0: return "" + m.push(c[1], c[2]);
                case 1: return "" + m.endTurn();
                case 2: return "" + m.begin();
                case 3: return "" + m.set(c[1]);
                case 4: return "" + m.append(c[1]);
                case 5: return "" + m.clearBuffer();
                case 6: return "" + m.firstError();
                case 7: return "" + m.lay();
                case 8: return "" + m.keep(c[1]);
                case 9: return "" + m.goBack(c[1]);
                case 10: return "" + m.undo();
                case 11: return "" + m.coin(c[1], c[2]);
                case 12: return "" + m.bedOf(c[1], c[2]);
                case 13: return "" + m.count(c[1]);
                case 14: return "" + m.ends(c[1], c[2], c[3]);
                case 15: return "" + m.ifPushed(c[1], c[2]);
                case 16: return "" + m.strengthFor(c[1], c[2]);
                case 17: return "" + m.bestPush();
                case 18: return "" + m.fullness() + " " + m.now.setting;
                default: return "" + m.digest();
            }
        } catch (RuntimeException e) {
            return e.getClass().getName();
        }
    }

    // ---- the model

    private static final class State {
        final List<TreeSet<Integer>> lanes = new ArrayList<>();
        int[][] chalks = new int[2][9];
        int[] counts = new int[12];
        int setting = 2;
        int lastPlace;

        State() {
            for (int lane = 0; lane < 3; lane++) {
                lanes.add(new TreeSet<>());
            }
        }

        State copy() {
            State s = new State();
            for (int lane = 0; lane < 3; lane++) {
                s.lanes.get(lane).addAll(lanes.get(lane));
            }
            s.chalks = new int[][] {chalks[0].clone(), chalks[1].clone()};
            s.counts = counts.clone();
            s.setting = setting;
            return s;
        }

        int coins() {
            return lanes.get(0).size() + lanes.get(1).size() + lanes.get(2).size();
        }

        int clean(int bed) {
            int n = 0;
            for (TreeSet<Integer> lane : lanes) {
                n += lane.subSet(10 * bed + 8, 10 * bed + 13).size();
            }
            return n;
        }

        int clean() {
            int n = 0;
            for (int bed = 0; bed < 9; bed++) {
                n += clean(bed);
            }
            return n;
        }

        /** Moves a coin, which is not on the lane meanwhile; answers how many it nudges. */
        int move(TreeSet<Integer> lane, int from, int strength) {
            int place = from;
            int left = strength;
            while (left > 0 && place < 100) {
                Integer ahead = lane.higher(place);
                if (ahead != null && ahead - (place + 1) < 5) {
                    lane.remove(ahead);
                    int more = move(lane, ahead, left - setting);
                    rest(lane, place);
                    return 1 + more;
                }
                place++;
                left--;
            }
            lastPlace = place;
            rest(lane, place);
            return 0;
        }

        private void rest(TreeSet<Integer> lane, int place) {
            if (place >= 100) {
                counts[8]++;
            } else if (place < 0) {
                counts[9]++;
            } else {
                lane.add(place);
            }
        }

        int push(int lane, int strength) {
            int nudges = move(lanes.get(lane), -5, strength);
            counts[10] += nudges;
            return nudges;
        }

        int makeChalks() {
            int made = 0;
            for (int bed = 0; bed < 9; bed++) {
                for (int n = clean(bed); n > 0; n--) {
                    int player = counts[0];
                    if (chalks[player][bed] >= 3) {
                        player = 1 - player;
                    }
                    if (chalks[player][bed] < 3) {
                        chalks[player][bed]++;
                        made++;
                    }
                }
            }
            return made;
        }

        int chalksOf(int player) {
            int n = 0;
            for (int c : chalks[player]) {
                n += c;
            }
            return n;
        }
    }

    private static final class Model {
        State now = new State();
        final State[] slots = new State[2];
        final Deque<State> saved = new ArrayDeque<>();
        String buffer = "";

        private void save() {
            saved.addLast(now.copy());
            if (saved.size() > 6) {
                saved.removeFirst();
            }
        }

        private static void index(boolean good) {
            if (!good) {
                throw new IndexOutOfBoundsException();
            }
        }

        private static void argument(boolean good) {
            if (!good) {
                throw new IllegalArgumentException();
            }
        }

        private static boolean in(int value, int least, int most) {
            return least <= value && value <= most;
        }

        private int refuse() {
            now.counts[11]++;
            return -1;
        }

        int push(int lane, int strength) {
            index(in(lane, 0, 2));
            argument(in(strength, 1, 150));
            save();
            if (now.counts[6] != 0) {
                return refuse();
            }
            int nudges = now.push(lane, strength);
            if (++now.counts[1] == 5) {
                close();
            }
            return nudges;
        }

        private int close() {
            int made = now.makeChalks();
            now.lanes.forEach(TreeSet::clear);
            now.counts[1] = 0;
            now.counts[7]++;
            int player = now.counts[0];
            if (now.chalksOf(player) == 27) {
                now.counts[6] = player + 1;
            } else if (now.chalksOf(1 - player) == 27) {
                now.counts[6] = 1 - player + 1;
            } else {
                now.counts[0] = 1 - player;
            }
            return made;
        }

        int endTurn() {
            save();
            return now.counts[6] != 0 ? refuse() : close();
        }

        int begin() {
            save();
            int had = now.chalksOf(0) + now.chalksOf(1);
            State fresh = new State();
            fresh.setting = now.setting;
            System.arraycopy(now.counts, 8, fresh.counts, 8, 4);
            now = fresh;
            return had;
        }

        int set(int value) {
            argument(in(value, 0, 20));
            save();
            int before = now.setting;
            now.setting = value;
            return before;
        }

        int append(int code) {
            argument(in(code, 33, 126));
            if (buffer.length() == 60) {
                throw new IllegalStateException();
            }
            buffer += (char) code;
            return buffer.length();
        }

        int clearBuffer() {
            int length = buffer.length();
            buffer = "";
            return length;
        }

        int firstError() {
            for (int end = 1; end <= buffer.length(); end++) {
                Matcher m = COINS.matcher(buffer.substring(0, end));
                if (!m.matches() && !m.hitEnd()) {
                    return end - 1;
                }
            }
            return buffer.length();
        }

        int lay() {
            argument(COINS.matcher(buffer).matches());
            save();
            State fresh = new State();
            boolean near = false;
            for (String coin : buffer.split(";")) {
                int place = Integer.parseInt(coin.substring(2));
                TreeSet<Integer> lane = fresh.lanes.get(coin.charAt(0) - '0');
                near |= !lane.subSet(place - 4, place + 5).isEmpty();
                lane.add(place);
            }
            buffer = "";
            if (near) {
                return refuse();
            }
            now.lanes.clear();
            now.lanes.addAll(fresh.lanes);
            return now.coins();
        }

        int keep(int slot) {
            argument(in(slot, 0, 1));
            slots[slot] = now.copy();
            return now.coins();
        }

        int goBack(int slot) {
            argument(in(slot, 0, 1));
            if (slots[slot] == null) {
                throw new IllegalStateException();
            }
            save();
            now = slots[slot].copy();
            return now.coins();
        }

        int undo() {
            if (saved.isEmpty()) {
                throw new IllegalStateException();
            }
            now = saved.removeLast();
            return saved.size();
        }

        int coin(int lane, int rank) {
            index(in(lane, 0, 2));
            argument(rank >= 0);
            List<Integer> places = new ArrayList<>(now.lanes.get(lane));
            return rank < places.size() ? places.get(rank) : -1;
        }

        int bedOf(int bed, int what) {
            index(in(bed, 0, 8));
            argument(in(what, 0, 4));
            if (what == 0) {
                return now.clean(bed);
            }
            if (what <= 2) {
                return now.chalks[what - 1][bed];
            }
            State after = now.copy();
            after.makeChalks();
            int player = what == 3 ? now.counts[0] : 1 - now.counts[0];
            return after.chalks[player][bed] - now.chalks[player][bed];
        }

        int count(int what) {
            argument(in(what, 0, 12));
            switch (what) {
                case 2: return now.coins();
                case 3: return now.clean();
                case 4: return now.chalksOf(0);
                case 5: return now.chalksOf(1);
                case 12: return saved.size();
                default: return now.counts[what];
            }
        }

        private State behind(int lane, int strength) {
            State s = now.copy();
            s.push(lane, strength);
            return s;
        }

        int ends(int lane, int strength, int what) {
            index(in(lane, 0, 2));
            argument(in(strength, 1, 150) && in(what, 0, 1));
            return behind(lane, strength).lastPlace;
        }

        int ifPushed(int lane, int strength) {
            index(in(lane, 0, 2));
            argument(in(strength, 1, 150));
            return behind(lane, strength).clean();
        }

        int strengthFor(int lane, int bed) {
            index(in(lane, 0, 2) && in(bed, 0, 8));
            for (int strength = 1; strength <= 150; strength++) {
                if (behind(lane, strength).clean(bed) > now.clean(bed)) {
                    return strength;
                }
            }
            return -1;
        }

        int bestPush() {
            int best = -1;
            int most = -1000;
            int player = now.counts[0];
            for (int lane = 2; lane >= 0; lane--) {
                for (int strength = 150; strength >= 1; strength--) {
                    State s = behind(lane, strength);
                    s.makeChalks();
                    int own = s.chalksOf(player) - now.chalksOf(player);
                    int other = s.chalksOf(1 - player) - now.chalksOf(1 - player);
                    if (own - other >= most) {
                        most = own - other;
                        best = 1000 * lane + strength;
                    }
                }
            }
            return best;
        }

        double fullness() {
            return (now.chalksOf(0) + now.chalksOf(1)) / 54.0;
        }

        long digest() {
            List<Long> v = new ArrayList<>();
            for (int what = 0; what <= 12; what++) {
                v.add((long) count(what));
            }
            v.add((long) now.setting);
            for (int lane = 0; lane < 3; lane++) {
                for (int place : now.lanes.get(lane)) {
                    v.add((long) place);
                }
                for (int strength = 30; strength <= 120; strength += 45) {
                    v.add((long) ends(lane, strength, 0));
                    v.add((long) ends(lane, strength, 1));
                }
                v.add((long) ifPushed(lane, 50));
                v.add((long) ifPushed(lane, 100));
            }
            for (int bed = 0; bed < 9; bed++) {
                for (int what = 0; what <= 4; what++) {
                    v.add((long) bedOf(bed, what));
                }
                for (int lane = 0; lane < 3; lane++) {
                    v.add((long) strengthFor(lane, bed));
                }
            }
            v.add((long) bestPush());
            v.add(Double.doubleToLongBits(fullness()));
            for (State slot : slots) {
                v.add(slot == null ? 0L : 1L);
            }
            v.add((long) buffer.length());
            buffer.chars().forEach(c -> v.add((long) c));
            long hash = 3637;
            for (long value : v) {
                hash = 31 * hash + value;
            }
            return hash;
        }
    }
}
