import java.util.ArrayList;
import java.util.List;
import java.util.function.Supplier;
import java.util.function.ToLongFunction;

/**
 * What the tests of the edges share: short ways to lay coins and end turns, objects to begin with,
 * and what a call does to an object, seen beside a twin that did not get the call.
 */
final class Watch {
    static final Class<? extends RuntimeException> INDEX = IndexOutOfBoundsException.class;
    static final Class<? extends RuntimeException> ARGUMENT = IllegalArgumentException.class;
    static final Class<? extends RuntimeException> STATE = IllegalStateException.class;
    static final int NONE = -1;
    static final int LEAST = Integer.MIN_VALUE;
    static final int MOST = Integer.MAX_VALUE;

    static final String BEDS_0_TO_2 = "0:8;1:9;2:10;0:18;1:19;2:22;0:28;1:29;2:30";
    static final String BEDS_3_TO_5 = "0:38;1:39;2:40;0:48;1:49;2:50;0:58;1:59;2:60";
    static final String BEDS_6_TO_8 = "0:68;1:69;2:70;0:78;1:79;2:80;0:88;1:89;2:92";
    static final String ALL_BUT_ONE = "0:68;1:69;2:70;0:78;1:79;2:80;0:88;1:89";
    /** As many two-digit coins as the buffer has room for: 59 characters. */
    static final String TWELVE = "0:40;0:45;0:50;0:55;0:60;0:65;0:70;0:75;0:80;0:85;0:90;0:95";

    private static String sentence = "";
    private static int sentences = 0;
    private static int wrong = 0;

    private Watch() {
    }

    // ---- what a test says

    /** The words of the document that the next checks stand for. */
    static void says(String words) {
        sentence = words;
        sentences++;
    }

    static void is(String what, long got, long due) {
        same(what, Long.toString(got), Long.toString(due));
    }

    static void same(String what, Object got, Object due) {
        if (!got.equals(due)) {
            wrong++;
            System.out.println(sentence + "\n    " + what + ": got " + got + ", due is " + due);
        }
    }

    static void end() {
        System.out.println(wrong == 0 ? sentences + " sentences hold" : wrong + " wrong");
        if (wrong > 0) {
            System.exit(1);
        }
    }

    // ---- coins and turns

    static void type(ShoveBeds b, String characters) {
        for (int i = 0; i < characters.length(); i++) {
            b.append(characters.charAt(i));
        }
    }

    static int lay(ShoveBeds b, String coins) {
        b.clearBuffer();
        type(b, coins);
        return b.lay();
    }

    static ShoveBeds with(String coins) {
        ShoveBeds b = new ShoveBeds();
        lay(b, coins);
        return b;
    }

    static ShoveBeds with(String coins, int setting) {
        ShoveBeds b = with(coins);
        b.set(setting);
        return b;
    }

    /** Lays the coins, and ends the turn with them; answers how many chalks are made. */
    static int turn(ShoveBeds b, String coins) {
        lay(b, coins);
        return b.endTurn();
    }

    /** Coins of the first lanes at one place; as a text. */
    static String row(int coins, int place) {
        StringBuilder text = new StringBuilder();
        for (int lane = 0; lane < coins; lane++) {
            text.append(lane == 0 ? "" : ";").append(lane).append(':').append(place);
        }
        return text.toString();
    }

    static String places(ShoveBeds b, int lane) {
        StringBuilder text = new StringBuilder();
        for (int rank = 0; b.coin(lane, rank) != NONE; rank++) {
            text.append(rank == 0 ? "" : " ").append(b.coin(lane, rank));
        }
        return text.toString();
    }

    static void lane(ShoveBeds b, int lane, String due) {
        same("coins of the lane " + lane, places(b, lane), due);
    }

    // ---- objects to begin with

    /** Just made. */
    static ShoveBeds made() {
        return new ShoveBeds();
    }

    /**
     * The turn of the player 1: chalks, four coins and three pushes; one coin fell off, one was taken
     * back, two were nudged, one lay was refused; five saved states, both slots, half a text.
     */
    static ShoveBeds busy() {
        ShoveBeds b = new ShoveBeds();
        b.keep(1);
        turn(b, "0:8;1:10;2:12;0:20");
        b.set(5);
        lay(b, "0:0;0:0");
        lay(b, "0:0;1:30;2:99");
        b.push(0, 3);
        b.push(2, 150);
        b.push(1, 30);
        b.keep(0);
        b.push(1, 60);
        b.undo();
        type(b, "1:2;0");
        return b;
    }

    /** Sixteen coins on a lane, four pushes, six saved states, sixty characters, empty slots. */
    static ShoveBeds full() {
        ShoveBeds b = with(TWELVE, 0);
        for (int i = 0; i < 4; i++) {
            b.push(0, 40 - 5 * i);
        }
        type(b, TWELVE);
        type(b, ";");
        return b;
    }

    /** The player 0 has won with the fifth turn; six saved states. */
    static ShoveBeds over() {
        ShoveBeds b = new ShoveBeds();
        turn(b, BEDS_0_TO_2);
        b.endTurn();
        turn(b, BEDS_3_TO_5);
        b.endTurn();
        turn(b, BEDS_6_TO_8);
        type(b, "2:7");
        return b;
    }

    /** A game that is over, with coins, one saved state and a snapshot. */
    static ShoveBeds overAndGoneBack() {
        ShoveBeds b = over();
        lay(b, "0:8;1:30;2:31");
        b.keep(0);
        while (b.count(12) > 0) {
            b.undo();
        }
        b.goBack(0);
        type(b, "0:1;");
        return b;
    }

    /** Both have all chalks but the third one of the bed 8; it is the turn of the player 0. */
    static ShoveBeds nearlyFull() {
        ShoveBeds b = new ShoveBeds();
        turn(b, BEDS_0_TO_2);
        turn(b, BEDS_0_TO_2);
        turn(b, BEDS_3_TO_5);
        turn(b, BEDS_3_TO_5);
        turn(b, ALL_BUT_ONE);
        turn(b, ALL_BUT_ONE);
        return b;
    }

    static List<Supplier<ShoveBeds>> starts() {
        List<Supplier<ShoveBeds>> all = new ArrayList<>();
        all.add(Watch::made);
        all.add(Watch::busy);
        all.add(Watch::full);
        all.add(Watch::over);
        all.add(Watch::overAndGoneBack);
        return all;
    }

    // ---- what a call does

    /** Of all that an object tells: the game, but for what is refused, saved, typed and kept. */
    static String looks(ShoveBeds b) {
        StringBuilder text = new StringBuilder();
        for (int what = 0; what <= 10; what++) {
            text.append(b.count(what)).append(' ');
        }
        text.append(b.setting());
        for (int lane = 0; lane < 3; lane++) {
            text.append(" | ").append(places(b, lane));
        }
        for (int bed = 0; bed < 9; bed++) {
            text.append(" | ").append(b.bedOf(bed, 1)).append(' ').append(b.bedOf(bed, 2));
        }
        return text.toString();
    }

    /** All that an object tells, its saved states, slots and buffer; the object is used up by it. */
    static String whole(ShoveBeds b) {
        StringBuilder text = new StringBuilder();
        text.append(looks(b)).append("\n refused ").append(b.count(11)).append(", saved ").append(b.count(12));
        text.append("\n error ").append(b.firstError()).append(", digests ").append(b.digest());
        while (b.count(12) > 0) {
            b.undo();
            text.append(' ').append(b.digest());
        }
        for (int slot = 0; slot < 2; slot++) {
            text.append("\n slot ").append(slot).append(' ').append(inSlot(b, slot));
        }
        return text.append("\n buffer ").append(b.clearBuffer()).toString();
    }

    private static String inSlot(ShoveBeds b, int slot) {
        try {
            return b.goBack(slot) + " " + b.digest();
        } catch (IllegalStateException e) {
            return "empty";
        }
    }

    /** "A call that throws an exception changes nothing (the buffer stays as it is, too)." */
    static void fails(String what, Class<? extends RuntimeException> due, Supplier<ShoveBeds> start,
            ToLongFunction<ShoveBeds> call) {
        ShoveBeds b = start.get();
        String got = "nothing";
        try {
            call.applyAsLong(b);
        } catch (RuntimeException e) {
            got = e.getClass().getName();
        }
        same(what + " throws", got, due.getName());
        same(what + ": all behind it", whole(b), whole(start.get()));
    }

    static void failsEverywhere(String what, Class<? extends RuntimeException> due, ToLongFunction<ShoveBeds> call) {
        for (Supplier<ShoveBeds> start : starts()) {
            fails(what, due, start, call);
        }
    }

    static void changesNothing(String what, Supplier<ShoveBeds> start, ToLongFunction<ShoveBeds> call) {
        ShoveBeds b = start.get();
        call.applyAsLong(b);
        same(what + ": all behind it", whole(b), whole(start.get()));
    }

    static void changesNothingAnywhere(String what, ToLongFunction<ShoveBeds> call) {
        for (Supplier<ShoveBeds> start : starts()) {
            changesNothing(what, start, call);
        }
    }

    /** The call is refused: it answers NONE, counts that, saves a state, and leaves the rest. */
    static void isRefused(String what, Supplier<ShoveBeds> start, ToLongFunction<ShoveBeds> call) {
        ShoveBeds b = start.get();
        ShoveBeds twin = start.get();
        is(what + " answers", call.applyAsLong(b), NONE);
        is(what + ": refused so far", b.count(11), twin.count(11) + 1);
        is(what + ": saved states", b.count(12), Math.min(6, twin.count(12) + 1));
        same(what + ": the game", looks(b), looks(twin));
        is(what + ": buffer", b.firstError(), twin.firstError());
        undoesTo(what, b, twin);
    }

    /** Behind an undo all is as before the undoable call; a seventh saved state dropped the oldest. */
    static void undoesTo(String what, ShoveBeds behind, ShoveBeds before) {
        int left = Math.min(5, before.count(12));
        is(what + ": undone", behind.undo(), left);
        before.set(before.setting());
        before.undo();
        same(what + ": all behind the undo", whole(behind), whole(before));
    }

    /** The call saves the state from before it, whatever it changes. */
    static void isUndoable(String what, Supplier<ShoveBeds> start, ToLongFunction<ShoveBeds> call) {
        ShoveBeds b = start.get();
        ShoveBeds twin = start.get();
        call.applyAsLong(b);
        is(what + ": saved states", b.count(12), Math.min(6, twin.count(12) + 1));
        undoesTo(what, b, twin);
    }

    static void isUndoableEverywhere(String what, ToLongFunction<ShoveBeds> call) {
        for (Supplier<ShoveBeds> start : starts()) {
            isUndoable(what, start, call);
        }
    }
}
