import java.util.function.Supplier;

/** The edges that promises 1 to 22 name: what is too small, too large, empty, full or refused. */
public final class PromiseEdgesTest {
    private static final int NONE = Watch.NONE;
    private static final int LEAST = Watch.LEAST;
    private static final int MOST = Watch.MOST;

    public static void main(String[] args) {
        constants();
        newObject();
        pushTakes();
        pushAnswers();
        pushIsRefused();
        endTurnGivesUp();
        endTurnAnswers();
        endTurnIsRefused();
        beginBegins();
        setTakes();
        appendTakes();
        appendAnswers();
        clearBufferClears();
        firstErrorFinds();
        layLays();
        layThrows();
        layIsRefused();
        layIsUndoable();
        keepTakes();
        keepKeeps();
        goBackTakes();
        goBackGoesBack();
        undoRestores();
        coinTells();
        bedOfTakes();
        bedOfTells();
        countTakes();
        countTells();
        settingTells();
        endsTakes();
        endsTells();
        ifPushedTakes();
        ifPushedTells();
        strengthForTakes();
        strengthForTells();
        bestPushFinds();
        fullnessTells();
        digestComputes();
        looksChangeNothing();
        Watch.end();
    }

    // ---- the constants

    private static void constants() {
        Watch.says("The constants: NONE = -1: There is nothing to return");
        Watch.is("NONE", ShoveBeds.NONE, -1);
    }

    // ---- promise 1

    private static void newObject() {
        Watch.says("Promise 1: Creates a board without coins and chalks, with empty slots and an empty buffer");
        ShoveBeds b = new ShoveBeds();
        Watch.same("all of the game", Watch.looks(b), "0 0 0 0 0 0 0 0 0 0 0 2 |  |  | "
                + " | 0 0 | 0 0 | 0 0 | 0 0 | 0 0 | 0 0 | 0 0 | 0 0 | 0 0");
        Watch.is("refused", b.count(11), 0);
        Watch.is("saved", b.count(12), 0);
        Watch.is("buffer", b.clearBuffer(), 0);
        Watch.fails("the slot 0", Watch.STATE, Watch::made, x -> x.goBack(0));
        Watch.fails("the slot 1", Watch.STATE, Watch::made, x -> x.goBack(1));
        Watch.fails("undo", Watch.STATE, Watch::made, ShoveBeds::undo);
        Watch.fails("lay", Watch.ARGUMENT, Watch::made, ShoveBeds::lay);
        Watch.busy();
        Watch.same("one board beside others", Watch.whole(b), Watch.whole(Watch.made()));
    }

    // ---- promise 2

    private static void pushTakes() {
        Watch.says("Promise 2: lane: 0 to 2; IndexOutOfBoundsException if there is no such lane");
        for (int lane : new int[] {LEAST, -1, 3, MOST}) {
            Watch.failsEverywhere("push on the lane " + lane, Watch.INDEX, x -> x.push(lane, 15));
        }
        Watch.is("the lane 0", new ShoveBeds().push(0, 15), 0);
        Watch.is("the lane 2", new ShoveBeds().push(2, 15), 0);
        Watch.says("Promise 2: strength: 1 to 150; IllegalArgumentException if strength is out of range");
        for (int strength : new int[] {LEAST, -1, 0, 151, MOST}) {
            Watch.failsEverywhere("push with " + strength, Watch.ARGUMENT, x -> x.push(2, strength));
        }
        ShoveBeds weakest = new ShoveBeds();
        Watch.is("the strength 1", weakest.push(1, 1), 0);
        Watch.is("the strength 1 is a push", weakest.count(1), 1);
        ShoveBeds strongest = Watch.with("1:99", 20);
        Watch.is("the strength 150", strongest.push(1, 150), 1);
        Watch.lane(strongest, 1, "94");
    }

    private static void pushAnswers() {
        Watch.says("Promise 2: Returns how many coins it nudges, itself and one another");
        Watch.is("none on an empty lane", new ShoveBeds().push(0, 150), 0);
        Watch.is("none, where it touches", Watch.with("0:20").push(0, 20), 0);
        Watch.is("one", Watch.with("0:20").push(0, 21), 1);
        Watch.is("one, that falls off", Watch.with("0:99").push(0, 150), 1);
        Watch.is("one, and it is taken back itself", Watch.with("0:0").push(0, 1), 1);
        Watch.is("two", Watch.with("0:20;0:25").push(0, 23), 2);
        Watch.is("the longest row", Watch.full().push(0, 150), 16);
        Watch.is("behind the fifth push, too", fourWeakPushes("2:30").push(2, 40), 1);
        Watch.says("Promise 2: Pushes a coin. Undoable");
        Watch.isUndoable("push on a new board", Watch::made, x -> x.push(0, 150));
        Watch.isUndoable("push", Watch::busy, x -> x.push(0, 1));
        Watch.isUndoable("the fifth push", Watch::full, x -> x.push(0, 150));
    }

    private static ShoveBeds fourWeakPushes(String coins) {
        ShoveBeds b = Watch.with(coins);
        for (int push = 0; push < 4; push++) {
            b.push(0, 1);
        }
        return b;
    }

    private static void pushIsRefused() {
        Watch.says("Promise 2: NONE if it is refused, as the game is over. Undoable, also if it is refused");
        for (int lane = 0; lane < 3; lane++) {
            int on = lane;
            Watch.isRefused("push on the lane " + lane, Watch::over, x -> x.push(on, 13));
            Watch.isRefused("push among coins", Watch::overAndGoneBack, x -> x.push(on, 150));
        }
        Watch.isRefused("push in a game that the player 1 has won", PromiseEdgesTest::wonBySecond, x -> x.push(0, 15));
        ShoveBeds b = Watch.over();
        for (int push = 1; push <= 5; push++) {
            Watch.is("push", b.push(0, 15), NONE);
            Watch.is("pushes", b.count(1), 0);
            Watch.is("refused", b.count(11), push);
        }
        Watch.is("five refused pushes are no turn", b.count(7), 5);
        Watch.is("the buffer stays", b.clearBuffer(), 3);
        Watch.is("undo of the fifth one", b.undo(), 5);
        Watch.is("refused behind it", b.count(11), 4);
    }

    private static ShoveBeds wonBySecond() {
        ShoveBeds b = Watch.nearlyFull();
        b.endTurn();
        Watch.turn(b, "1:90");
        return b;
    }

    // ---- promise 3

    private static void endTurnGivesUp() {
        Watch.says("Promise 3: Gives up the pushes that are left of the turn: the chalks are made now");
        for (int pushes = 0; pushes <= 4; pushes++) {
            ShoveBeds b = new ShoveBeds();
            for (int push = 0; push < pushes; push++) {
                b.push(push % 3, push < 3 ? 13 : 3);
            }
            Watch.is("chalks behind " + pushes, b.endTurn(), Math.min(3, pushes));
            Watch.is("chalks of the player 0", b.count(4), Math.min(3, pushes));
            Watch.is("pushes", b.count(1), 0);
            Watch.is("turns", b.count(7), 1);
            Watch.is("player", b.count(0), 1);
            Watch.is("coins", b.count(2), 0);
        }
        Watch.says("Promise 3: Undoable");
        Watch.isUndoable("endTurn on a new board", Watch::made, ShoveBeds::endTurn);
        Watch.isUndoable("endTurn", Watch::busy, ShoveBeds::endTurn);
        Watch.isUndoable("endTurn, six saved", Watch::full, ShoveBeds::endTurn);
    }

    private static void endTurnAnswers() {
        Watch.says("Promise 3: Returns how many chalks are made for both");
        ShoveBeds b = new ShoveBeds();
        Watch.is("none", b.endTurn(), 0);
        Watch.is("three for one", Watch.turn(b, Watch.row(3, 50)), 3);
        Watch.is("one for one", Watch.turn(b, Watch.row(1, 50)), 1);
        Watch.is("two for the other", Watch.turn(b, Watch.row(3, 50)), 2);
        Watch.is("nothing in a full bed", Watch.turn(b, Watch.row(3, 50)), 0);
        Watch.is("some for both in two beds", Watch.turn(b, Watch.row(3, 50) + ";0:60;1:60"), 2);
        Watch.is("one for each", Watch.turn(Watch.nearlyFull(), "0:88;1:88;2:88"), 2);
    }

    private static void endTurnIsRefused() {
        Watch.says("Promise 3: NONE if it is refused, as the game is over. Undoable, also if it is refused");
        Watch.isRefused("endTurn", Watch::over, ShoveBeds::endTurn);
        Watch.isRefused("endTurn among coins", Watch::overAndGoneBack, ShoveBeds::endTurn);
        Watch.isRefused("endTurn behind the player 1", PromiseEdgesTest::wonBySecond, ShoveBeds::endTurn);
        ShoveBeds b = Watch.overAndGoneBack();
        b.endTurn();
        Watch.is("the coins stay", b.count(2), 3);
        Watch.is("the chalks stay", b.count(4) * 100 + b.count(5), 2700);
        Watch.is("the player stays", b.count(0), 0);
    }

    // ---- promise 4

    private static void beginBegins() {
        Watch.says("Promise 4: Begins a new game: no coins, no chalks, no pushes, the player 0");
        for (Supplier<ShoveBeds> start : Watch.starts()) {
            ShoveBeds b = start.get();
            ShoveBeds twin = start.get();
            Watch.is("chalks that both had", b.begin(), twin.count(4) + twin.count(5));
            for (int what = 0; what <= 7; what++) {
                Watch.is("count " + what, b.count(what), 0);
            }
            for (int what = 8; what <= 11; what++) {
                Watch.is("so far " + what, b.count(what), twin.count(what));
            }
            for (int bed = 0; bed < 9; bed++) {
                Watch.is("chalks in the bed " + bed, b.bedOf(bed, 1) + b.bedOf(bed, 2), 0);
            }
            Watch.is("setting", b.setting(), twin.setting());
            Watch.is("saved states", b.count(12), Math.min(6, twin.count(12) + 1));
            Watch.is("buffer", b.clearBuffer(), twin.clearBuffer());
            Watch.is("the game goes on", b.push(0, 5), 0);
        }
        ShoveBeds busy = Watch.busy();
        busy.begin();
        Watch.is("fell off, taken back, nudges and refused so far", busy.count(8) * 1000 + busy.count(9) * 100
                + busy.count(10) * 10 + busy.count(11), 1121);
        Watch.says("Promise 4: Returns how many chalks both had");
        ShoveBeds b = Watch.nearlyFull();
        Watch.turn(b, "0:88;1:90;2:92");
        Watch.is("all chalks", b.begin(), 54);
        Watch.is("no chalks", b.begin(), 0);
        Watch.is("the slots stay", Watch.busy().begin() + slotsBehindBegin(), 8);
        Watch.says("Promise 4: Undoable");
        Watch.isUndoableEverywhere("begin", ShoveBeds::begin);
    }

    private static int slotsBehindBegin() {
        ShoveBeds b = Watch.busy();
        b.begin();
        return b.goBack(1) + b.goBack(0);
    }

    // ---- promise 5

    private static void setTakes() {
        Watch.says("Promise 5: value: 0 to 20; IllegalArgumentException if value is out of range");
        for (int value : new int[] {LEAST, -1, 21, MOST}) {
            Watch.failsEverywhere("set " + value, Watch.ARGUMENT, x -> x.set(value));
        }
        Watch.says("Promise 5: Returns the previous value");
        ShoveBeds b = new ShoveBeds();
        Watch.is("at first", b.set(0), 2);
        for (int value = 0; value <= 20; value++) {
            Watch.is("set " + value, b.set(value), Math.max(0, value - 1));
            Watch.is("setting " + value, b.setting(), value);
        }
        Watch.is("back to the least", b.set(0), 20);
        Watch.says("Promise 5: Changes the setting. Undoable");
        for (int value : new int[] {0, 2, 20}) {
            Watch.isUndoableEverywhere("set " + value, x -> x.set(value));
        }
        Watch.is("in a game that is over", Watch.over().set(9), 2);
    }

    // ---- promises 6 and 7

    private static void appendTakes() {
        Watch.says("Promise 6: code: the character code, 33 to 126; IllegalArgumentException if code is not 33 to 126");
        for (int code : new int[] {LEAST, -1, 0, 10, 32, 127, 128, 255, 65536 + 48, MOST}) {
            Watch.failsEverywhere("append " + code, Watch.ARGUMENT, x -> x.append(code));
        }
        ShoveBeds b = new ShoveBeds();
        for (int code = 33; code <= 92; code++) {
            Watch.is("append " + code, b.append(code), code - 32);
        }
        b.clearBuffer();
        for (int code = 93; code <= 126; code++) {
            Watch.is("append " + code, b.append(code), code - 92);
        }
        Watch.says("Promise 6: IllegalStateException if the buffer has 60 characters");
        Watch.fails("append to sixty", Watch.STATE, Watch::full, x -> x.append(33));
        Watch.fails("append to sixty", Watch.STATE, Watch::full, x -> x.append(126));
        Watch.fails("append to sixty errors", Watch.STATE, () -> typed("x".repeat(60)), x -> x.append('x'));
    }

    private static void appendAnswers() {
        Watch.says("Promise 6: Returns the new length of the buffer");
        Watch.is("the first one", new ShoveBeds().append('0'), 1);
        Watch.is("the sixtieth one", typed("y".repeat(59)).append('0'), 60);
        Watch.is("behind a clearBuffer", cleared().append('0'), 1);
        ShoveBeds b = typed("0:1");
        b.lay();
        Watch.is("behind a lay", b.append('0'), 1);
        ShoveBeds refused = typed("0:1;0:1");
        refused.lay();
        Watch.is("behind a refused lay", refused.append('0'), 1);
        Watch.is("in a game that is over", Watch.over().append('0'), 4);
    }

    private static ShoveBeds typed(String characters) {
        ShoveBeds b = new ShoveBeds();
        Watch.type(b, characters);
        return b;
    }

    private static ShoveBeds cleared() {
        ShoveBeds b = Watch.full();
        b.clearBuffer();
        return b;
    }

    private static void clearBufferClears() {
        Watch.says("Promise 7: Clears the buffer. Returns the length that it had");
        Watch.is("an empty one", new ShoveBeds().clearBuffer(), 0);
        Watch.is("one character", typed("x").clearBuffer(), 1);
        Watch.is("sixty characters", Watch.full().clearBuffer(), 60);
        ShoveBeds b = Watch.full();
        b.clearBuffer();
        Watch.is("cleared", b.clearBuffer(), 0);
        Watch.is("no error is left", b.firstError(), 0);
        Watch.same("the game behind it", Watch.looks(b), Watch.looks(Watch.full()));
        Watch.is("saved states behind it", b.count(12), 6);
        ShoveBeds again = typed("3:x");
        again.clearBuffer();
        Watch.type(again, "2:7");
        Watch.is("no old character is left", again.lay(), 1);
        Watch.lane(again, 2, "7");
    }

    // ---- promise 8

    private static void firstErrorFinds() {
        Watch.says("Promise 8: Returns the index of the first character that is a syntax error");
        String coins = Watch.TWELVE + ";";
        for (int index = 0; index < 60; index++) {
            ShoveBeds b = typed(coins.substring(0, index) + "x" + coins.substring(index + 1));
            Watch.is("an x at " + index, b.firstError(), index);
        }
        Watch.is("errors everywhere", typed("x".repeat(60)).firstError(), 0);
        Watch.says("Promise 8: the length of the buffer if there is none");
        for (int length = 0; length <= 60; length++) {
            Watch.is("no error in " + length, typed(coins.substring(0, length)).firstError(), length);
        }
        Watch.changesNothingAnywhere("firstError", ShoveBeds::firstError);
    }

    // ---- promise 9

    private static void layLays() {
        Watch.says("Promise 9: Lays the coins of the buffer in place of all that lie there, and clears the buffer");
        ShoveBeds b = Watch.with("0:0;0:99;1:0;1:99;2:0;2:99");
        Watch.is("one in place of six", Watch.lay(b, "1:50"), 1);
        Watch.lane(b, 0, "");
        Watch.lane(b, 1, "50");
        Watch.lane(b, 2, "");
        Watch.is("the buffer is cleared", b.clearBuffer(), 0);
        Watch.is("as near to those that lay there", Watch.lay(b, "1:52;1:47"), 2);
        Watch.lane(b, 1, "47 52");
        Watch.is("the replaced did not fall off", b.count(8) + b.count(9) + b.count(10), 0);
        Watch.says("Promise 9: Returns how many coins there are then");
        Watch.is("one", Watch.lay(new ShoveBeds(), "2:0"), 1);
        Watch.is("as many two-digit coins as there is room for", Watch.lay(new ShoveBeds(), Watch.TWELVE), 12);
        Watch.is("as many coins as there is room for", Watch.lay(new ShoveBeds(),
                "0:0;0:5;1:0;1:5;2:0;2:5;0:99;1:99;2:99;0:94;1:94;2:94;0:89"), 13);
        Watch.lane(Watch.with("0:95;0:40;0:90;0:45;0:85;0:50;0:80;0:55;0:75;0:60;0:70;0:65"), 0,
                "40 45 50 55 60 65 70 75 80 85 90 95");
        Watch.says("Promise 9: the pushes of the turn stay");
        ShoveBeds pushed = fourWeakPushes("0:50");
        Watch.lay(pushed, "1:8");
        Watch.is("pushes", pushed.count(1), 4);
        pushed.push(0, 1);
        Watch.is("the fifth push ends the turn", pushed.count(7), 1);
        Watch.is("the laid coin gets its chalk", pushed.count(4), 1);
        Watch.is("in a game that is over", Watch.lay(Watch.over(), "0:8;1:8"), 2);
        Watch.is("in a game that is over, nothing is refused", Watch.overAndGoneBack().count(11), 0);
    }

    private static void layThrows() {
        Watch.says("Promise 9: IllegalArgumentException if the buffer does not tell coins as a text");
        String[] wrong = {"", "0", "0:", ":5", "0:5;", ";0:5", "0:5;;1:5", "0:05", "0:00", "0:100", "3:5", "0:5;3:5", "0:5;1",
            "0:5;1:", "0:5,1:5", "0:-5", "0:5x", "x", "0:5:", "0;5", Watch.TWELVE + ";"};
        for (String text : wrong) {
            Watch.fails("lay " + text, Watch.ARGUMENT, () -> typed(text), ShoveBeds::lay);
            ShoveBeds b = Watch.with("2:20");
            Watch.type(b, text);
            try {
                Watch.is("lay " + text, b.lay(), LEAST);
            } catch (IllegalArgumentException e) {
                Watch.lane(b, 2, "20");
                Watch.is("not refused", b.count(11), 0);
                Watch.is("not saved", b.count(12), 1);
                Watch.is("the buffer stays", b.clearBuffer(), text.length());
            }
        }
        Watch.fails("lay half a text", Watch.ARGUMENT, Watch::busy, ShoveBeds::lay);
        Watch.fails("lay half a text, six saved", Watch.ARGUMENT, Watch::full, ShoveBeds::lay);
        Watch.fails("lay half a text in a game that is over", Watch.ARGUMENT, Watch::overAndGoneBack, ShoveBeds::lay);
        Watch.fails("lay near coins with an error", Watch.ARGUMENT, () -> typed("0:5;0:5;"), ShoveBeds::lay);
    }

    private static void layIsRefused() {
        Watch.says("Promise 9: NONE if it is refused, as two of a lane are nearer than 5");
        String[] near = {"0:0;0:0", "0:0;0:4", "2:99;2:95", "1:50;0:50;2:50;1:54", "0:10;0:20;0:30;0:16", "0:10;0:20;0:30;0:26",
            "0:10;0:30;0:34", "0:30;0:10;0:6", "2:0;2:1;2:2", Watch.TWELVE.replace("0:95", "0:94")};
        for (String text : near) {
            ShoveBeds b = Watch.with("0:50;2:7", 9);
            b.push(0, 60);
            String looks = Watch.looks(b);
            Watch.is("lay " + text, Watch.lay(b, text), NONE);
            Watch.same("all lies as before " + text, Watch.looks(b), looks);
            Watch.is("refused", b.count(11), 1);
            Watch.is("saved", b.count(12), 4);
            Watch.is("the buffer is cleared then, too", b.clearBuffer(), 0);
            Watch.is("undo", b.undo(), 3);
            Watch.is("refused behind the undo", b.count(11), 0);
            Watch.same("all lies as before the undo", Watch.looks(b), looks);
        }
    }

    private static void layIsUndoable() {
        Watch.says("Promise 9: Undoable, also if it is refused (the buffer is cleared then, too)");
        for (String text : new String[] {"1:0;1:5", "1:0;1:4"}) {
            for (Supplier<ShoveBeds> start : Watch.starts()) {
                ShoveBeds b = start.get();
                ShoveBeds twin = start.get();
                twin.clearBuffer();
                Watch.is("lay " + text, Watch.lay(b, text), text.equals("1:0;1:5") ? 2 : NONE);
                Watch.is("saved", b.count(12), Math.min(6, twin.count(12) + 1));
                Watch.undoesTo("lay " + text, b, twin);
            }
        }
    }

    // ---- promises 10 and 11

    private static void keepTakes() {
        Watch.says("Promise 10: slot: 0 or 1; IllegalArgumentException if slot is out of range");
        for (int slot : new int[] {LEAST, -1, 2, MOST}) {
            Watch.failsEverywhere("keep " + slot, Watch.ARGUMENT, x -> x.keep(slot));
        }
        Watch.says("Promise 10: Returns how many coins there are");
        for (int slot = 0; slot < 2; slot++) {
            Watch.is("none", new ShoveBeds().keep(slot), 0);
            Watch.is("one", Watch.with("2:0").keep(slot), 1);
            Watch.is("sixteen", Watch.full().keep(slot), 16);
            Watch.is("in a game that is over", Watch.overAndGoneBack().keep(slot), 3);
        }
    }

    private static void keepKeeps() {
        Watch.says("Promise 10: Takes a snapshot, in place of the one in the slot");
        ShoveBeds b = Watch.with("0:1");
        b.keep(0);
        b.keep(1);
        Watch.lay(b, "0:2;1:2");
        b.keep(1);
        Watch.lay(b, "0:3;1:3;2:3");
        Watch.is("in place of it", b.goBack(1), 2);
        Watch.is("the other one stays", b.goBack(0), 1);
        b.keep(0);
        b.push(0, 3);
        b.set(8);
        b.endTurn();
        b.begin();
        Watch.is("what is done later does not change it", b.goBack(0), 1);
        Watch.lane(b, 0, "1");
        Watch.is("its setting", b.setting(), 2);
        Watch.is("its player", b.count(0), 0);
        b.push(0, 7);
        Watch.is("what is done behind goBack does not, either", b.goBack(0), 1);
        Watch.lane(b, 0, "1");
        Watch.says("Promise 10: it is not undoable, and all else stays");
        for (Supplier<ShoveBeds> start : Watch.starts()) {
            ShoveBeds kept = start.get();
            ShoveBeds twin = start.get();
            kept.keep(1);
            Watch.is("saved", kept.count(12), twin.count(12));
            Watch.same("the game", Watch.looks(kept), Watch.looks(twin));
            Watch.is("the buffer", kept.clearBuffer(), twin.clearBuffer());
        }
    }

    private static void goBackTakes() {
        Watch.says("Promise 11: slot: 0 or 1; IllegalArgumentException if slot is out of range");
        for (int slot : new int[] {LEAST, -1, 2, MOST}) {
            Watch.failsEverywhere("goBack " + slot, Watch.ARGUMENT, x -> x.goBack(slot));
        }
        Watch.says("Promise 11: IllegalStateException if there is no snapshot in it");
        for (int slot = 0; slot < 2; slot++) {
            int empty = slot;
            Watch.fails("goBack " + slot, Watch.STATE, Watch::made, x -> x.goBack(empty));
            Watch.fails("goBack " + slot, Watch.STATE, Watch::full, x -> x.goBack(empty));
            Watch.fails("goBack " + slot, Watch.STATE, Watch::over, x -> x.goBack(empty));
            Watch.fails("goBack " + slot + ", the other one is kept", Watch.STATE, () -> keptIn(1 - empty), x -> x.goBack(empty));
        }
    }

    private static ShoveBeds keptIn(int slot) {
        ShoveBeds b = Watch.with("1:7");
        b.keep(slot);
        return b;
    }

    private static void goBackGoesBack() {
        Watch.says("Promise 11: Goes back to a snapshot, which stays. Returns how many coins there are then");
        Watch.is("none", Watch.busy().goBack(1), 0);
        Watch.is("four", Watch.busy().goBack(0), 4);
        ShoveBeds b = Watch.overAndGoneBack();
        b.begin();
        for (int times = 0; times < 8; times++) {
            Watch.is("it stays", b.goBack(0), 3);
            Watch.is("the game is over in it", b.count(6), 1);
            Watch.is("a push is refused in it", b.push(0, 15), NONE);
            Watch.is("refused so far", b.count(11), 1);
            b.begin();
            Watch.is("a new game goes on", b.push(0, 15), 0);
        }
        Watch.says("Promise 11: Undoable");
        Watch.isUndoable("goBack 0", Watch::busy, x -> x.goBack(0));
        Watch.isUndoable("goBack 1", Watch::busy, x -> x.goBack(1));
        Watch.isUndoable("goBack over", Watch::overAndGoneBack, x -> x.goBack(0));
        Watch.isUndoable("goBack, six saved", PromiseEdgesTest::fullAndKept, x -> x.goBack(1));
    }

    private static ShoveBeds fullAndKept() {
        ShoveBeds b = Watch.full();
        b.keep(1);
        return b;
    }

    // ---- promise 12

    private static void undoRestores() {
        Watch.says("Promise 12: IllegalStateException if there is none");
        Watch.fails("undo", Watch.STATE, Watch::made, ShoveBeds::undo);
        for (Supplier<ShoveBeds> start : Watch.starts()) {
            Watch.fails("undo behind all undos", Watch.STATE, () -> allUndone(start.get()), ShoveBeds::undo);
        }
        Watch.fails("undo of what was kept and typed", Watch.STATE, () -> keptAndTyped(), ShoveBeds::undo);
        Watch.says("Promise 12: Restores the latest saved state, and drops it. Returns how many saved states are left");
        ShoveBeds b = new ShoveBeds();
        b.push(0, 20);
        b.set(7);
        Watch.lay(b, "1:1");
        b.endTurn();
        b.begin();
        Watch.is("undo begin", b.undo(), 4);
        Watch.is("turns", b.count(7), 1);
        Watch.is("undo endTurn", b.undo(), 3);
        Watch.lane(b, 1, "1");
        Watch.is("undo lay", b.undo(), 2);
        Watch.lane(b, 0, "15");
        Watch.is("undo set", b.undo(), 1);
        Watch.is("setting", b.setting(), 2);
        Watch.is("undo push", b.undo(), 0);
        Watch.is("pushes", b.count(1), 0);
        Watch.is("saved anew", b.set(3) * 10 + b.count(12), 21);
        ShoveBeds seventh = new ShoveBeds();
        for (int push = 0; push < 7; push++) {
            seventh.push(push % 3, 1);
        }
        for (int left = 5; left >= 0; left--) {
            Watch.is("undo", seventh.undo(), left);
            Watch.is("taken back", seventh.count(9), left + 1);
        }
    }

    private static ShoveBeds allUndone(ShoveBeds b) {
        while (b.count(12) > 0) {
            b.undo();
        }
        return b;
    }

    private static ShoveBeds keptAndTyped() {
        ShoveBeds b = typed("0:5");
        b.keep(0);
        b.clearBuffer();
        return b;
    }

    // ---- promise 13

    private static void coinTells() {
        Watch.says("Promise 13: IndexOutOfBoundsException if there is no such lane");
        for (int lane : new int[] {LEAST, -1, 3, MOST}) {
            Watch.failsEverywhere("coin of the lane " + lane, Watch.INDEX, x -> x.coin(lane, 0));
        }
        Watch.says("Promise 13: IllegalArgumentException if rank is below 0");
        for (int rank : new int[] {LEAST, -2, -1}) {
            Watch.failsEverywhere("coin of the rank " + rank, Watch.ARGUMENT, x -> x.coin(2, rank));
        }
        Watch.says("Promise 13: rank: from 0, by rising places; NONE if the lane has not so many coins");
        ShoveBeds b = Watch.full();
        for (int rank = 0; rank < 16; rank++) {
            Watch.is("rank " + rank, b.coin(0, rank), 20 + 5 * rank);
        }
        for (int rank : new int[] {16, 17, 19, 20, 21, 22, 99, 1 << 16, MOST}) {
            Watch.is("rank " + rank, b.coin(0, rank), NONE);
        }
        Watch.is("an empty lane", b.coin(1, 0), NONE);
        Watch.is("the place 0", Watch.with("1:0").coin(1, 0), 0);
        Watch.is("the place 99", Watch.with("1:99").coin(1, 0), 99);
        Watch.is("behind one coin", Watch.with("1:99").coin(1, 1), NONE);
        ShoveBeds fewer = Watch.with("0:10;0:20;0:30");
        Watch.lay(fewer, "0:40");
        Watch.is("no old coin is left", fewer.coin(0, 1), NONE);
        fewer.endTurn();
        Watch.is("no coin is left", fewer.coin(0, 0), NONE);
    }

    // ---- promise 14

    private static void bedOfTakes() {
        Watch.says("Promise 14: bed: 0 to 8; IndexOutOfBoundsException if there is no such bed");
        for (int bed : new int[] {LEAST, -1, 9, MOST}) {
            Watch.failsEverywhere("bed " + bed, Watch.INDEX, x -> x.bedOf(bed, 0));
        }
        Watch.says("Promise 14: IllegalArgumentException if what is not 0 to 4");
        for (int what : new int[] {LEAST, -1, 5, MOST}) {
            Watch.failsEverywhere("a bed's number " + what, Watch.ARGUMENT, x -> x.bedOf(8, what));
        }
    }

    private static void bedOfTells() {
        Watch.says("Promise 14: 0: coins that lie clean in it; 1, 2: chalks; 3, 4: those that each would get in it now");
        for (int own = 0; own <= 3; own++) {
            for (int other = 0; other <= 3; other++) {
                for (int coins = 0; coins <= 3; coins++) {
                    bedWith(own, other, coins);
                }
            }
        }
        Watch.says("Promise 14: ... in a game that is over, for the player whose turn was the last");
        ShoveBeds b = Watch.overAndGoneBack();
        Watch.is("coins in the bed 2", b.bedOf(2, 0), 2);
        Watch.is("the player 0 would get", b.bedOf(2, 3), 0);
        Watch.is("the player 1 would get", b.bedOf(2, 4), 2);
        ShoveBeds other = wonByTheOther();
        Watch.lay(other, "0:8;1:8;2:90");
        Watch.is("the player 1, whose turn was the last, would get", other.bedOf(0, 3), 2);
        Watch.is("the player 0, who has won, would get", other.bedOf(0, 4), 0);
        Watch.is("nobody would get in a full bed", other.bedOf(8, 3) + other.bedOf(8, 4), 0);
    }

    /** The player 0 has won by the turn of the player 1, who has three chalks in the bed 8 alone. */
    private static ShoveBeds wonByTheOther() {
        ShoveBeds b = new ShoveBeds();
        Watch.turn(b, Watch.BEDS_0_TO_2);
        Watch.turn(b, Watch.row(3, 90));
        Watch.turn(b, Watch.BEDS_3_TO_5);
        b.endTurn();
        Watch.turn(b, Watch.ALL_BUT_ONE);
        Watch.turn(b, "2:88");
        return b;
    }

    private static void bedWith(int own, int other, int coins) {
        for (int player = 0; player < 2; player++) {
            for (int bed : new int[] {0, 8}) {
                ShoveBeds b = new ShoveBeds();
                if (player == 1) {
                    b.endTurn();
                }
                turnWith(b, own, bed);
                turnWith(b, other, bed);
                if (coins > 0) {
                    Watch.lay(b, Watch.row(coins, 10 * bed + 11));
                }
                String what = "player " + player + ", " + own + " and " + other + " chalks, " + coins + " coins: ";
                int gain = Math.min(coins, 3 - own);
                Watch.is(what + "coins", b.bedOf(bed, 0), coins);
                Watch.is(what + "own chalks", b.bedOf(bed, 1 + player), own);
                Watch.is(what + "other chalks", b.bedOf(bed, 2 - player), other);
                Watch.is(what + "own gain", b.bedOf(bed, 3), gain);
                Watch.is(what + "other gain", b.bedOf(bed, 4), Math.min(coins - gain, 3 - other));
                Watch.is(what + "another bed", b.bedOf(4, 3) + b.bedOf(4, 4), 0);
            }
        }
    }

    private static void turnWith(ShoveBeds b, int chalks, int bed) {
        if (chalks > 0) {
            Watch.lay(b, Watch.row(chalks, 10 * bed + 9));
        }
        b.endTurn();
    }

    // ---- promises 15 and 16

    private static void countTakes() {
        Watch.says("Promise 15: IllegalArgumentException if what is not 0 to 12");
        for (int what : new int[] {LEAST, -1, 13, MOST}) {
            Watch.failsEverywhere("count " + what, Watch.ARGUMENT, x -> x.count(what));
        }
    }

    private static void countTells() {
        Watch.says("Promise 15: 0: the player whose turn it is (when the game is over, the one whose turn was the last)");
        Watch.is("over, the player 0", Watch.over().count(0), 0);
        Watch.is("over, the player 1", wonBySecond().count(0), 1);
        Watch.is("over by the turn of the other", wonByTheOther().count(0) * 10 + wonByTheOther().count(6), 11);
        Watch.is("the turn of the player 1", Watch.busy().count(0), 1);
        Watch.says("Promise 15: 1: pushes made in the turn; 2: coins on the board; 3: of these the ones that lie clean");
        Watch.is("four pushes", Watch.full().count(1), 4);
        Watch.is("sixteen coins", Watch.full().count(2), 16);
        Watch.is("eight of them clean", Watch.full().count(3), 8);
        ShoveBeds none = Watch.with("0:7;1:13;2:99");
        Watch.is("three coins", none.count(2), 3);
        Watch.is("none of them clean", none.count(3), 0);
        Watch.says("Promise 15: 6: 0 if the game goes on, otherwise 1 more than the player who has won");
        Watch.is("goes on", Watch.nearlyFull().count(6), 0);
        Watch.is("the player 0 has won", Watch.over().count(6), 1);
        Watch.is("the player 1 has won", wonBySecond().count(6), 2);
        Watch.says("Promise 15: 8: coins that fell off so far; 9: coins taken back so far; 10: nudges so far");
        ShoveBeds b = Watch.with("0:99;1:0");
        b.push(0, 150);
        b.push(1, 1);
        b.push(2, 4);
        Watch.is("fell off, taken back, nudges", b.count(8) * 100 + b.count(9) * 10 + b.count(10), 122);
        b.ends(0, 150, 0);
        b.ends(0, 150, 1);
        b.ifPushed(1, 1);
        b.bestPush();
        b.digest();
        b.endTurn();
        Watch.is("so far", b.count(8) * 100 + b.count(9) * 10 + b.count(10), 122);
        Watch.says("Promise 15: 11: what was refused so far; 12: saved states");
        ShoveBeds over = Watch.over();
        over.push(0, 1);
        over.endTurn();
        Watch.lay(over, "0:1;0:1");
        Watch.is("three kinds are refused", over.count(11), 3);
        over.begin();
        Watch.is("so far", over.count(11), 3);
        Watch.is("six at most", over.count(12), 6);
    }

    private static void settingTells() {
        Watch.says("Promise 16: Returns its value");
        Watch.is("at first", new ShoveBeds().setting(), 2);
        Watch.is("the least", Watch.with("0:0", 0).setting(), 0);
        Watch.is("the most", Watch.with("0:0", 20).setting(), 20);
        ShoveBeds b = Watch.with("0:0", 20);
        b.begin();
        b.endTurn();
        Watch.is("behind begin", b.setting(), 20);
    }

    // ---- promise 17

    private static void endsTakes() {
        Watch.says("Promise 17: IndexOutOfBoundsException if there is no such lane");
        for (int lane : new int[] {LEAST, -1, 3, MOST}) {
            Watch.failsEverywhere("ends on the lane " + lane, Watch.INDEX, x -> x.ends(lane, 15, 0));
            Watch.failsEverywhere("ends on the lane " + lane, Watch.INDEX, x -> x.ends(lane, 15, 1));
        }
        Watch.says("Promise 17: IllegalArgumentException if strength is out of range, or what is not 0 or 1");
        for (int strength : new int[] {LEAST, -1, 0, 151, MOST}) {
            Watch.failsEverywhere("ends with " + strength, Watch.ARGUMENT, x -> x.ends(0, strength, 0));
            Watch.failsEverywhere("ends with " + strength, Watch.ARGUMENT, x -> x.ends(0, strength, 1));
        }
        for (int what : new int[] {LEAST, -1, 2, MOST}) {
            Watch.failsEverywhere("ends, told by " + what, Watch.ARGUMENT, x -> x.ends(2, 150, what));
        }
    }

    private static void endsAt(ShoveBeds b, int lane, int strength, int due) {
        Watch.is("place by place, with " + strength, b.ends(lane, strength, 0), due);
        Watch.is("at once, with " + strength, b.ends(lane, strength, 1), due);
    }

    private static void endsTells() {
        Watch.says("Promise 17: Returns its place (the same for both); 100 if it falls off; -5 to -1 if it would be taken back");
        ShoveBeds empty = new ShoveBeds();
        for (int strength = 1; strength <= 150; strength++) {
            endsAt(empty, strength % 3, strength, Math.min(100, strength - 5));
        }
        Watch.says("Promise 17: that of the coin nudged last, also if it stays");
        ShoveBeds touching = Watch.with("0:0;0:5;0:10", 3);
        int[] due = {0, 0, 0, 5, 5, 5, 10, 10, 10, 11, 12};
        for (int strength = 1; strength <= due.length; strength++) {
            endsAt(touching, 0, strength, due[strength - 1]);
        }
        ShoveBeds apart = Watch.with("1:7;1:14", 1);
        int[] from = {-4, -3, -2, -1, 0, 1, 2, 7, 8, 9, 14, 15};
        for (int strength = 1; strength <= from.length; strength++) {
            endsAt(apart, 1, strength, from[strength - 1]);
        }
        ShoveBeds dear = Watch.with("2:99", 20);
        endsAt(dear, 2, 98, 93);
        endsAt(dear, 2, 99, 94);
        endsAt(dear, 2, 100, 99);
        endsAt(dear, 2, 119, 99);
        endsAt(dear, 2, 120, 100);
        endsAt(dear, 2, 150, 100);
        endsAt(Watch.full(), 0, 150, 100);
        endsAt(Watch.full(), 0, 19, 14);
        endsAt(Watch.full(), 0, 20, 15);
        endsAt(Watch.full(), 0, 21, 96);
        endsAreAsPushed();
        Watch.says("Promise 17: whether the game is over or not");
        endsAt(Watch.overAndGoneBack(), 0, 13, 11);
        endsAt(Watch.overAndGoneBack(), 0, 12, 10);
        endsAt(Watch.over(), 2, 104, 99);
    }

    /** The coins behind a push tell where its last coin was: one of them is at the place told before. */
    private static void endsAreAsPushed() {
        Watch.says("Promise 17: Tells where the last coin that is pushed or nudged would be behind a push");
        for (int strength = 1; strength <= 150; strength++) {
            ShoveBeds b = Watch.with("0:4;0:11;0:16;0:60;0:99", strength % 8);
            int place = b.ends(0, strength, 1);
            Watch.is("told both ways", b.ends(0, strength, 0), place);
            int nudges = b.push(0, strength);
            boolean takenBack = b.count(9) == 1;
            Watch.is("taken back and nothing nudged", place < 0 ? 1 : 0, takenBack && nudges == 0 ? 1 : 0);
            Watch.is("fell off", place == 100 ? 1 : 0, b.count(8));
            if (place >= 0 && place < 100) {
                Watch.is("the coin nudged last", b.coin(0, nudges - (takenBack ? 1 : 0)), place);
            }
        }
    }

    // ---- promise 18

    private static void ifPushedTakes() {
        Watch.says("Promise 18: IndexOutOfBoundsException if there is no such lane");
        for (int lane : new int[] {LEAST, -1, 3, MOST}) {
            Watch.failsEverywhere("ifPushed on the lane " + lane, Watch.INDEX, x -> x.ifPushed(lane, 15));
        }
        Watch.says("Promise 18: IllegalArgumentException if strength is out of range");
        for (int strength : new int[] {LEAST, -1, 0, 151, MOST}) {
            Watch.failsEverywhere("ifPushed with " + strength, Watch.ARGUMENT, x -> x.ifPushed(1, strength));
        }
    }

    private static void ifPushedTells() {
        Watch.says("Promise 18: Returns the coins of all lanes");
        ShoveBeds empty = new ShoveBeds();
        for (int strength = 1; strength <= 150; strength++) {
            int ones = (strength - 5 + 10) % 10;
            boolean clean = strength >= 13 && strength <= 97 && (ones >= 8 || ones <= 2);
            Watch.is("an empty board, " + strength, empty.ifPushed(strength % 3, strength), clean ? 1 : 0);
        }
        ShoveBeds b = Watch.with("0:10;1:10;1:92;2:50");
        Watch.is("taken back", b.ifPushed(0, 1), 4);
        Watch.is("one on each lane", b.ifPushed(2, 15), 5);
        Watch.is("one is nudged out of its bed", b.ifPushed(0, 15), 3);
        Watch.is("one falls off, one is nudged to 87", b.ifPushed(1, 150), 2);
        Watch.says("Promise 18: Tells how many coins would lie clean behind a push, without chalks");
        ShoveBeds fifth = fourWeakPushes("0:10;1:10");
        Watch.is("behind a fifth push the coins lie there", fifth.ifPushed(2, 15), 3);
        Watch.is("full beds", overWith("0:8;1:8;2:8").ifPushed(0, 94), 3);
    }

    private static ShoveBeds overWith(String coins) {
        ShoveBeds b = Watch.over();
        Watch.lay(b, coins);
        return b;
    }

    // ---- promise 19

    private static void strengthForTakes() {
        Watch.says("Promise 19: IndexOutOfBoundsException if there is no such lane or bed");
        for (int lane : new int[] {LEAST, -1, 3, MOST}) {
            Watch.failsEverywhere("strengthFor the lane " + lane, Watch.INDEX, x -> x.strengthFor(lane, 0));
        }
        for (int bed : new int[] {LEAST, -1, 9, MOST}) {
            Watch.failsEverywhere("strengthFor the bed " + bed, Watch.INDEX, x -> x.strengthFor(2, bed));
        }
    }

    private static void strengthForTells() {
        Watch.says("Promise 19: Returns the least strength behind which more coins lie clean in the bed than now");
        ShoveBeds empty = new ShoveBeds();
        for (int bed = 0; bed < 9; bed++) {
            for (int lane = 0; lane < 3; lane++) {
                Watch.is("bed " + bed + " on the lane " + lane, empty.strengthFor(lane, bed), 13 + 10 * bed);
            }
        }
        Watch.is("the least that there can be", Watch.with("0:2;0:7", 0).strengthFor(0, 0), 3);
        Watch.is("the greatest that there can be", rowOfSeven(16).strengthFor(0, 6), 150);
        Watch.is("coins of other lanes do not matter", Watch.with("1:8;2:8").strengthFor(0, 0), 13);
        Watch.is("a coin that is nudged within the bed is none more", Watch.with("0:8").strengthFor(0, 0), NONE);
        Watch.says("Promise 19: NONE if there is none");
        Watch.is("one more than the greatest", rowOfSeven(17).strengthFor(0, 6), NONE);
        Watch.is("no room for two of a lane", Watch.with("0:10", 0).strengthFor(0, 0), NONE);
        Watch.is("a row in the way", Watch.full().strengthFor(0, 8), NONE);
        Watch.is("chalks do not matter", Watch.over().strengthFor(1, 4), 53);
    }

    /** The last one is nudged with the strength less seven times the setting: 38 bring it to 68. */
    private static ShoveBeds rowOfSeven(int setting) {
        return Watch.with("0:0;0:5;0:10;0:15;0:20;0:25;0:30", setting);
    }

    // ---- promise 20

    private static void bestPushFinds() {
        Watch.says("Promise 20: of several the one on the lowest lane, of these that with the least strength");
        Watch.is("a new board", new ShoveBeds().bestPush(), 13);
        Watch.is("the lane 0 is shut", Watch.with("0:0;0:5;0:10;0:15;0:20;0:25;0:30;0:35;0:40;0:45", 20).bestPush(), 1013);
        Watch.is("the lane 0 leads by as much", Watch.with("1:2;1:7", 0).bestPush(), 13);
        Watch.says("Promise 20: 1000 times the lane, and the strength, together: from 1 to 2150");
        Watch.is("all beds are full", allFull().bestPush(), 1);
        ShoveBeds far = new ShoveBeds();
        Watch.turn(far, "0:28;1:29;2:30;" + Watch.BEDS_3_TO_5);
        far.endTurn();
        far.set(16);
        Watch.lay(far, "2:0;2:5;2:10;2:15;2:20;2:25;2:30;0:70;1:70");
        Watch.is("the greatest strength on the last lane", far.bestPush(), 2150);
        Watch.says("Promise 20: the most chalks more than the other one, if they were made then");
        Watch.is("all that is clean is the other's, so it is pushed away", overWith("0:8;1:8;2:8").bestPush(), 15);
        Watch.is("the last lane's coin is the other's", overWith("2:8").bestPush(), 2015);
        Watch.is("in a game that is over, for the player whose turn was the last", wonByTheOther().bestPush(), 13);
        Watch.is("nothing leads: a coin that is taken back", Watch.over().bestPush(), 1);
        ShoveBeds second = new ShoveBeds();
        Watch.turn(second, Watch.row(3, 8));
        Watch.is("the player 1 has room in the bed 0", second.bestPush(), 13);
        second.endTurn();
        Watch.is("the player 0 has none", second.bestPush(), 23);
    }

    private static ShoveBeds allFull() {
        ShoveBeds b = Watch.nearlyFull();
        Watch.turn(b, "0:88;1:90;2:92");
        Watch.lay(b, "0:8;1:50;2:92");
        return b;
    }

    // ---- promise 21

    private static void fullnessTells() {
        Watch.says("Promise 21: Returns the chalks of both players as a double, divided by 54");
        Watch.same("no chalks", new ShoveBeds().fullness(), 0.0);
        Watch.same("all chalks", allFull().fullness(), 1.0);
        Watch.same("half of them", Watch.over().fullness(), 0.5);
        ShoveBeds b = new ShoveBeds();
        for (int chalks = 1; chalks <= 18; chalks++) {
            Watch.turn(b, (chalks % 3) + ":" + (10 * ((chalks - 1) / 2) + 10));
            Watch.same(chalks + " chalks", b.fullness(), chalks / 54.0);
        }
        Watch.same("a new game", begun().fullness(), 0.0);
    }

    private static ShoveBeds begun() {
        ShoveBeds b = Watch.over();
        b.begin();
        return b;
    }

    // ---- promise 22

    private static void digestComputes() {
        Watch.says("Promise 22: Computes a hash of the whole state ... in long arithmetic with overflow");
        // These numbers are reckoned outside Java, with whole numbers of any length.
        Watch.is("a new board", Watch.made().digest(), -4055372251281490631L);
        Watch.is("coins, chalks and half a text", Watch.busy().digest(), -4608676448013569823L);
        Watch.is("sixteen coins, six saved states, sixty characters", Watch.full().digest(), -5010135049883804205L);
        Watch.is("a game that is over", Watch.over().digest(), -5668622523193923651L);
        Watch.is("coins in a game that is over", Watch.overAndGoneBack().digest(), -5312826072189420717L);
        Watch.is("all chalks", allFull().digest(), -7385969737959771761L);
        Watch.says("Promise 22: for each slot 1 if it has a snapshot, otherwise 0");
        long none = Watch.made().digest();
        long second = keptAgain(1, 1).digest();
        long first = keptAgain(0, 1).digest();
        // Behind the slots the length of the buffer alone is taken up: 0.
        Watch.is("the slot 1", second, none + 31);
        Watch.is("the slot 0", first, none + 31 * 31);
        Watch.is("the slot 0 twice", keptAgain(0, 2).digest(), first);
        Watch.says("Promise 22: the length of the buffer and each of its character codes");
        Watch.is("the least code", typed("!").digest(), (none + 1) * 31 + 33);
        Watch.is("the greatest code", typed("~").digest(), (none + 1) * 31 + 126);
        Watch.is("two codes", typed("~!").digest(), ((none + 2) * 31 + 126) * 31 + 33);
        Watch.is("a cleared buffer", clearedAgain().digest(), none);
    }

    private static ShoveBeds keptAgain(int slot, int times) {
        ShoveBeds b = new ShoveBeds();
        for (int i = 0; i < times; i++) {
            b.keep(slot);
        }
        return b;
    }

    private static ShoveBeds clearedAgain() {
        ShoveBeds b = typed("~!");
        b.clearBuffer();
        return b;
    }

    // ---- looks, and what would be

    private static void looksChangeNothing() {
        Watch.says("looks; nothing is changed");
        Watch.changesNothingAnywhere("coin", x -> x.coin(0, 0) + x.coin(2, 99));
        Watch.changesNothingAnywhere("setting", ShoveBeds::setting);
        for (int what = 0; what <= 12; what++) {
            int number = what;
            Watch.changesNothingAnywhere("count " + what, x -> x.count(number));
        }
        for (int what = 0; what <= 4; what++) {
            int number = what;
            Watch.changesNothingAnywhere("bedOf " + what, x -> x.bedOf(2, number));
        }
        Watch.says("what would be; nothing is changed, whether the game is over or not");
        for (int strength : new int[] {1, 30, 105, 150}) {
            Watch.changesNothingAnywhere("ends, 0", x -> x.ends(0, strength, 0));
            Watch.changesNothingAnywhere("ends, 1", x -> x.ends(0, strength, 1));
            Watch.changesNothingAnywhere("ifPushed", x -> x.ifPushed(0, strength));
        }
        Watch.changesNothingAnywhere("strengthFor", x -> x.strengthFor(0, 8));
        Watch.changesNothingAnywhere("bestPush", ShoveBeds::bestPush);
        Watch.changesNothingAnywhere("fullness", x -> (long) x.fullness());
        Watch.changesNothingAnywhere("digest", ShoveBeds::digest);
    }
}
