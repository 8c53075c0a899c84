import java.util.function.IntSupplier;

/** Every promise of the document: ordinary inputs, the edges that it names, wrong inputs. */
public final class PromisesTest {
    private static final Class<? extends RuntimeException> INDEX = IndexOutOfBoundsException.class;
    private static final Class<? extends RuntimeException> ARGUMENT = IllegalArgumentException.class;
    private static final Class<? extends RuntimeException> STATE = IllegalStateException.class;
    private static final int LEAST = Integer.MIN_VALUE;
    private static final int MOST = Integer.MAX_VALUE;

    private static int wrong = 0;

    public static void main(String[] args) {
        newObject();
        pushMovesACoin();
        pushNudges();
        pushAtTheEnds();
        pushEndsATurn();
        pushWrongInputs();
        endTurnMakesChalks();
        endTurnGivesTooMuchToTheOther();
        gameIsOver();
        gameIsWonByTheOther();
        bothHaveAllBeds();
        beginStartsAnew();
        setChangesTheSetting();
        appendFillsTheBuffer();
        clearBufferEmptiesIt();
        firstErrorFindsThePlace();
        layPutsCoins();
        layRefuses();
        keepAndGoBack();
        undoRestores();
        undoKeepsSixStates();
        coinTellsPlaces();
        bedOfTellsNumbers();
        bedsHaveEdges();
        countTellsNumbers();
        endsTellsThePlace();
        ifPushedCounts();
        strengthForFindsTheLeast();
        bestPushFindsTheLead();
        fullnessIsAShare();
        digestFollowsTheList();
        digestOfEveryFullness();
        System.out.println(wrong == 0 ? "all promises hold" : wrong + " wrong");
        if (wrong > 0) {
            System.exit(1);
        }
    }

    // ---- help

    private static void is(String what, long got, long due) {
        if (got != due) {
            wrong++;
            System.out.println(what + " is " + got + ", due is " + due);
        }
    }

    /** The call throws just this exception and changes nothing. */
    private static void fails(String what, ShoveBeds b, Class<? extends RuntimeException> due, IntSupplier call) {
        long before = b.digest();
        String got = "nothing";
        try {
            call.getAsInt();
        } catch (RuntimeException e) {
            got = e.getClass().getName();
        }
        if (!got.equals(due.getName())) {
            wrong++;
            System.out.println(what + " throws " + got + ", due is " + due.getName());
        }
        is(what + ": digest behind it", b.digest(), before);
    }

    private static void type(ShoveBeds b, String characters) {
        for (int i = 0; i < characters.length(); i++) {
            b.append(characters.charAt(i));
        }
    }

    private static int lay(ShoveBeds b, String coins) {
        b.clearBuffer();
        type(b, coins);
        return b.lay();
    }

    private static ShoveBeds with(String coins) {
        ShoveBeds b = new ShoveBeds();
        lay(b, coins);
        return b;
    }

    private static void lane(String what, ShoveBeds b, int lane, int... places) {
        for (int rank = 0; rank < places.length; rank++) {
            is(what + ": coin " + rank, b.coin(lane, rank), places[rank]);
        }
        is(what + ": no further coin", b.coin(lane, places.length), ShoveBeds.NONE);
    }

    /** Lays the coins, and ends the turn with them; answers how many chalks are made. */
    private static int turn(ShoveBeds b, String coins) {
        lay(b, coins);
        return b.endTurn();
    }

    private static final String BEDS_0_TO_2 = "0:8;1:9;2:10;0:18;1:19;2:22;0:28;1:29;2:30";
    private static final String BEDS_3_TO_5 = "0:38;1:39;2:40;0:48;1:49;2:50;0:58;1:59;2:60";
    private static final String BEDS_6_TO_8 = "0:68;1:69;2:70;0:78;1:79;2:80;0:88;1:89;2:92";
    private static final String BUT_ONE = "0:68;1:69;2:70;0:78;1:79;2:80;0:88;1:89";

    /** The player 0 has won with the fifth turn. */
    private static ShoveBeds wonGame() {
        ShoveBeds b = new ShoveBeds();
        turn(b, BEDS_0_TO_2);
        b.endTurn();
        turn(b, BEDS_3_TO_5);
        b.endTurn();
        turn(b, BEDS_6_TO_8);
        return b;
    }

    /** Both have all but one chalk in the bed 8; it is the turn of the player 0. */
    private static ShoveBeds nearlyFull() {
        ShoveBeds b = new ShoveBeds();
        turn(b, BEDS_0_TO_2);
        turn(b, BEDS_0_TO_2);
        turn(b, BEDS_3_TO_5);
        turn(b, BEDS_3_TO_5);
        turn(b, BUT_ONE);
        turn(b, BUT_ONE);
        return b;
    }

    // ---- promise 1

    private static void newObject() {
        is("NONE", ShoveBeds.NONE, -1);
        ShoveBeds b = new ShoveBeds();
        for (int what = 0; what <= 12; what++) {
            is("new: count " + what, b.count(what), 0);
        }
        is("new: setting", b.setting(), 2);
        is("new: buffer", b.firstError(), 0);
        is("new: buffer's length", b.clearBuffer(), 0);
        for (int lane = 0; lane < 3; lane++) {
            lane("new: lane " + lane, b, lane);
        }
        for (int bed = 0; bed < 9; bed++) {
            for (int what = 0; what < 5; what++) {
                is("new: bed " + bed, b.bedOf(bed, what), 0);
            }
        }
        fails("new: slot 0 is empty", b, STATE, () -> b.goBack(0));
        fails("new: slot 1 is empty", b, STATE, () -> b.goBack(1));
        fails("new: nothing to undo", b, STATE, b::undo);
    }

    // ---- promise 2

    private static void pushMovesACoin() {
        ShoveBeds b = new ShoveBeds();
        is("push 15", b.push(0, 15), 0);
        lane("push 15", b, 0, 10);
        lane("push 15: the lane 1", b, 1);
        is("push 14 on the lane 2", b.push(2, 14), 0);
        lane("push 14 on the lane 2", b, 2, 9);
        is("pushes", b.count(1), 2);
        is("saved", b.count(12), 2);
        is("push till it touches", b.push(0, 10), 0);
        lane("push till it touches", b, 0, 5, 10);
    }

    private static void pushNudges() {
        ShoveBeds b = with("0:20;0:25;0:50");
        is("two nudges", b.push(0, 30), 2);
        lane("two nudges", b, 0, 15, 20, 31, 50);
        is("nudges so far", b.count(10), 2);

        ShoveBeds free = with("1:20;1:25");
        free.set(0);
        is("free nudges", free.push(1, 21), 2);
        lane("free nudges", free, 1, 15, 20, 26);

        ShoveBeds stays = with("0:10");
        is("a nudge takes all", stays.push(0, 12), 1);
        lane("a nudge takes all", stays, 0, 5, 10);

        ShoveBeds moves = with("0:10");
        is("a nudge leaves one", moves.push(0, 13), 1);
        lane("a nudge leaves one", moves, 0, 5, 11);

        ShoveBeds dear = with("0:10");
        dear.set(20);
        is("a nudge takes more than all", dear.push(0, 25), 1);
        lane("a nudge takes more than all", dear, 0, 5, 10);

        ShoveBeds touches = with("0:20");
        is("touches without a nudge", touches.push(0, 20), 0);
        lane("touches without a nudge", touches, 0, 15, 20);

        ShoveBeds chain = with("2:0;2:5;2:10;2:15");
        chain.set(1);
        is("a whole row", chain.push(2, 10), 4);
        lane("a whole row", chain, 2, 0, 5, 10, 21);
        is("a whole row: taken back", chain.count(9), 1);
    }

    private static void pushAtTheEnds() {
        ShoveBeds b = new ShoveBeds();
        b.push(0, 104);
        lane("104", b, 0, 99);
        b.push(1, 105);
        lane("105", b, 1);
        is("105: fell off", b.count(8), 1);
        b.push(2, 4);
        lane("4", b, 2);
        is("4: taken back", b.count(9), 1);
        b.push(2, 5);
        lane("5", b, 2, 0);
        is("pushes with those", b.count(1), 4);

        ShoveBeds falls = with("0:99");
        is("the nudged one falls", falls.push(0, 150), 1);
        lane("the nudged one falls", falls, 0, 94);
        is("the nudged one falls: fell off", falls.count(8), 1);

        ShoveBeds below = with("0:0");
        is("nudged from below", below.push(0, 6), 1);
        lane("nudged from below", below, 0, 4);
        is("nudged from below: taken back", below.count(9), 1);
        is("nudged in vain", below.push(0, 5), 1);
        lane("nudged in vain", below, 0, 4);

        ShoveBeds full = new ShoveBeds();
        full.set(0);
        lay(full, "0:4;0:9;0:14;0:19;0:24;0:29;0:34;0:39;0:44;0:49;0:54;0:59");
        is("twelve nudges", full.push(0, 150), 12);
        is("twelve nudges: the first", full.coin(0, 0), 4);
        is("twelve nudges: fell off", full.count(8), 1);
        is("twelve nudges: taken back", full.count(9), 1);
        is("twelve nudges: coins", full.count(2), 11);
    }

    private static void pushEndsATurn() {
        ShoveBeds b = new ShoveBeds();
        b.push(0, 15);
        b.push(1, 15);
        b.push(2, 15);
        b.push(0, 1);
        is("four pushes: turn", b.count(0), 0);
        is("four pushes: chalks", b.count(4), 0);
        is("the fifth push", b.push(2, 14), 1);
        is("five pushes: turn", b.count(0), 1);
        is("five pushes: pushes", b.count(1), 0);
        is("five pushes: coins", b.count(2), 0);
        // On the lane 2 the coin at 10 was nudged to 12: 4 were left, less 2.
        is("five pushes: chalks", b.count(4), 3);
        is("five pushes: chalks of the other", b.count(5), 0);
        is("five pushes: turns", b.count(7), 1);
    }

    private static void pushWrongInputs() {
        ShoveBeds b = with("0:10;1:3");
        fails("push lane 3", b, INDEX, () -> b.push(3, 1));
        fails("push lane -1", b, INDEX, () -> b.push(-1, 1));
        fails("push lane least", b, INDEX, () -> b.push(LEAST, 1));
        fails("push lane most", b, INDEX, () -> b.push(MOST, 1));
        fails("push both wrong", b, INDEX, () -> b.push(3, 0));
        fails("push strength 0", b, ARGUMENT, () -> b.push(0, 0));
        fails("push strength 151", b, ARGUMENT, () -> b.push(2, 151));
        fails("push strength least", b, ARGUMENT, () -> b.push(0, LEAST));
        fails("push strength most", b, ARGUMENT, () -> b.push(0, MOST));
        is("push strength 150", b.push(2, 150), 0);
        is("push strength 1", b.push(2, 1), 0);
    }

    // ---- promise 3, turns and chalks

    private static void endTurnMakesChalks() {
        ShoveBeds b = new ShoveBeds();
        is("an empty turn", b.endTurn(), 0);
        is("an empty turn: player", b.count(0), 1);
        is("an empty turn: saved", b.count(12), 1);
        b.push(0, 15);
        b.push(0, 12);
        is("coins behind the pushes", b.count(2), 2);
        is("clean behind the pushes", b.count(3), 1);
        is("given up", b.endTurn(), 1);
        is("given up: player", b.count(0), 0);
        is("given up: pushes", b.count(1), 0);
        is("given up: coins", b.count(2), 0);
        is("given up: chalks of 1", b.bedOf(0, 2), 1);
        is("given up: turns", b.count(7), 2);
        b.undo();
        is("undone: player", b.count(0), 1);
        is("undone: pushes", b.count(1), 2);
        lane("undone", b, 0, 5, 10);
    }

    private static void endTurnGivesTooMuchToTheOther() {
        ShoveBeds b = new ShoveBeds();
        is("three in the bed 0", turn(b, "0:8;1:10;2:12"), 3);
        is("two for the player 1", turn(b, "0:8;1:10"), 2);
        is("0 now", b.count(0), 0);
        lay(b, "0:8;1:10;2:12;0:20");
        is("would get in the bed 0", b.bedOf(0, 3), 0);
        is("the other would get", b.bedOf(0, 4), 1);
        is("would get in the bed 1", b.bedOf(1, 3), 1);
        is("two of four", b.endTurn(), 2);
        is("chalks of 0 in the bed 0", b.bedOf(0, 1), 3);
        is("chalks of 1 in the bed 0", b.bedOf(0, 2), 3);
        is("chalks of 0 in the bed 1", b.bedOf(1, 1), 1);
        is("a full bed", turn(b, "0:8;1:10;2:12"), 0);
        is("chalks", b.count(4) * 100 + b.count(5), 403);
    }

    private static void gameIsOver() {
        ShoveBeds b = wonGame();
        is("won", b.count(6), 1);
        is("won: player", b.count(0), 0);
        is("won: chalks", b.count(4), 27);
        is("won: turns", b.count(7), 5);
        is("won: coins", b.count(2), 0);
        is("won: pushes", b.count(1), 0);
        is("refused push", b.push(0, 15), ShoveBeds.NONE);
        is("refused end", b.endTurn(), ShoveBeds.NONE);
        is("refused", b.count(11), 2);
        is("refused: saved", b.count(12), 6);
        is("refused: turns", b.count(7), 5);
        fails("wrong push in a won game", b, INDEX, () -> b.push(3, 15));
        is("refused push undone", b.undo(), 5);
        is("refused push undone: refused", b.count(11), 1);
        is("lay in a won game", lay(b, "0:8;1:50"), 2);
        is("clean in a won game", b.count(3), 2);
        is("would get nothing", b.bedOf(0, 3), 0);
        is("the other would get", b.bedOf(0, 4), 1);
        is("ends in a won game", b.ends(0, 13, 0), 11);
        is("set in a won game", b.set(3), 2);
        is("begin in a won game", b.begin(), 27);
        is("goes on", b.count(6), 0);
        is("push again", b.push(0, 15), 0);
    }

    private static void gameIsWonByTheOther() {
        ShoveBeds b = new ShoveBeds();
        turn(b, BEDS_0_TO_2);
        turn(b, "0:90;1:90;2:90");
        turn(b, BEDS_3_TO_5);
        b.endTurn();
        turn(b, BUT_ONE);
        is("not yet", b.count(6), 0);
        is("the player 1 makes the last one", b.count(0), 1);
        is("it goes to the other", turn(b, "2:88"), 1);
        is("the other has won", b.count(6), 1);
        is("the last turn was of 1", b.count(0), 1);
        is("turns", b.count(7), 6);
    }

    private static void bothHaveAllBeds() {
        ShoveBeds b = nearlyFull();
        is("nearly full", b.count(4) + b.count(5), 52);
        is("both get one", turn(b, "0:88;1:90;2:92"), 2);
        is("all chalks", b.count(4) + b.count(5), 54);
        is("the player 0 had the turn", b.count(6), 1);
        is("all chalks as a share", Double.doubleToLongBits(b.fullness()), Double.doubleToLongBits(1.0));
        digestIsDue("all chalks", b, "", 0, 0);

        ShoveBeds other = nearlyFull();
        other.endTurn();
        is("both get one again", turn(other, "0:88;1:90;2:92"), 2);
        is("the player 1 had the turn", other.count(6), 2);
        is("player", other.count(0), 1);
    }

    // ---- promise 4

    private static void beginStartsAnew() {
        ShoveBeds b = new ShoveBeds();
        b.set(7);
        turn(b, "0:8;1:10;2:12");
        turn(b, "0:8;1:30");
        b.endTurn();
        b.push(0, 105);
        b.push(0, 2);
        b.push(1, 15);
        b.push(1, 15);
        is("chalks of both", b.begin(), 5);
        for (int what = 0; what <= 7; what++) {
            is("begun: count " + what, b.count(what), 0);
        }
        is("begun: fell off so far", b.count(8), 1);
        is("begun: taken back so far", b.count(9), 1);
        is("begun: nudges so far", b.count(10), 1);
        is("begun: setting", b.setting(), 7);
        is("begun: saved", b.count(12), 6);
        is("begun again", b.begin(), 0);
        b.undo();
        b.undo();
        is("undone: chalks", b.count(4) + b.count(5), 5);
        is("undone: pushes", b.count(1), 4);
    }

    // ---- promise 5

    private static void setChangesTheSetting() {
        ShoveBeds b = new ShoveBeds();
        is("set 20", b.set(20), 2);
        is("set 0", b.set(0), 20);
        is("set 0 again", b.set(0), 0);
        is("set: saved", b.count(12), 3);
        fails("set 21", b, ARGUMENT, () -> b.set(21));
        fails("set -1", b, ARGUMENT, () -> b.set(-1));
        fails("set least", b, ARGUMENT, () -> b.set(LEAST));
        fails("set most", b, ARGUMENT, () -> b.set(MOST));
        b.undo();
        b.undo();
        is("set: undone", b.setting(), 20);
    }

    // ---- promises 6 and 7

    private static void appendFillsTheBuffer() {
        ShoveBeds b = new ShoveBeds();
        fails("append 32", b, ARGUMENT, () -> b.append(32));
        fails("append 127", b, ARGUMENT, () -> b.append(127));
        fails("append least", b, ARGUMENT, () -> b.append(LEAST));
        fails("append most", b, ARGUMENT, () -> b.append(MOST));
        is("append 33", b.append(33), 1);
        is("append 126", b.append(126), 2);
        for (int length = 3; length <= 60; length++) {
            is("append", b.append('0'), length);
        }
        fails("append the 61st", b, STATE, () -> b.append('0'));
        fails("append a wrong 61st", b, ARGUMENT, () -> b.append(32));
        is("append is not undoable", b.count(12), 0);
    }

    private static void clearBufferEmptiesIt() {
        ShoveBeds b = new ShoveBeds();
        type(b, "0:5");
        is("clear", b.clearBuffer(), 3);
        is("clear again", b.clearBuffer(), 0);
        is("clear is not undoable", b.count(12), 0);
        type(b, "1");
        b.set(4);
        b.undo();
        is("undo leaves the buffer", b.clearBuffer(), 1);
    }

    // ---- promise 8

    private static void error(String characters, int due) {
        ShoveBeds b = new ShoveBeds();
        type(b, characters);
        is("first error of " + characters, b.firstError(), due);
        is("first error of " + characters + ": length", b.clearBuffer(), characters.length());
    }

    private static void firstErrorFindsThePlace() {
        error("", 0);
        error("0", 1);
        error("3", 0);
        error("/", 0);
        error(":", 0);
        error(";", 0);
        error("2:", 2);
        error("22", 1);
        error("2;", 1);
        error("2:;", 2);
        error("2::", 2);
        error("0:0", 3);
        error("0:00", 3);
        error("0:05", 3);
        error("0:99", 4);
        error("0:100", 4);
        error("0:5;", 4);
        error("0:5;;", 4);
        error("0:5;3", 4);
        error("0:5:", 3);
        error("0:55:", 4);
        error("0:0:", 3);
        error("0:5;1:10;2:0", 12);
        error("0:5;0:5", 7);
        error("0:5;1:1x;3", 7);
        error("0:-1", 2);
        error("0:0;0:0;0:0;0:0;0:0;0:0;0:0;0:0;0:0;0:0;0:0;0:0;0:0;0:0;0:0;", 60);
        error("0:10;0:1;0:0;0:0;0:0;0:0;0:0;0:0;0:0;0:0;0:0;0:0;0:0;0:0;0:1", 60);
    }

    // ---- promise 9

    private static void layPutsCoins() {
        ShoveBeds b = new ShoveBeds();
        b.push(0, 15);
        b.push(0, 15);
        is("lay", lay(b, "0:99;0:0;1:50;0:5;0:94"), 5);
        lane("lay", b, 0, 0, 5, 94, 99);
        lane("lay", b, 1, 50);
        is("lay: pushes stay", b.count(1), 2);
        is("lay: buffer", b.clearBuffer(), 0);
        is("lay: saved", b.count(12), 3);
        is("lay in place of all", lay(b, "2:7"), 1);
        lane("lay in place of all", b, 0);
        lane("lay in place of all", b, 2, 7);
        b.undo();
        lane("lay undone", b, 1, 50);
        is("lay undone: buffer", b.clearBuffer(), 0);
        is("fifteen coins", lay(b, "0:5;1:5;2:5;0:0;1:0;2:0;0:10;1:10;2:10;0:15;1:15;2:15"), 12);
    }

    private static void layRefuses() {
        ShoveBeds b = with("1:30");
        is("4 apart", lay(b, "0:5;0:9"), ShoveBeds.NONE);
        lane("4 apart: the coins stay", b, 1, 30);
        lane("4 apart: none is laid", b, 0);
        is("4 apart: refused", b.count(11), 1);
        is("4 apart: buffer", b.clearBuffer(), 0);
        is("4 apart: saved", b.count(12), 2);
        is("the same place", lay(b, "2:7;1:7;2:7"), ShoveBeds.NONE);
        is("the last ones", lay(b, "0:50;0:20;0:30;0:33"), ShoveBeds.NONE);
        is("the first ones", lay(b, "0:5;0:9;1:50"), ShoveBeds.NONE);
        is("below the first", lay(b, "0:20;0:16"), ShoveBeds.NONE);
        is("refused", b.count(11), 5);
        b.undo();
        is("refused, undone", b.count(11), 4);
        is("5 apart", lay(b, "0:5;0:10;0:0"), 3);
        for (String wrongText : new String[] {"", "0", "0:", "0:5;", "0:00", "3:1", "0:5;1", "0:5;1:", "x", "0:5x"}) {
            b.clearBuffer();
            type(b, wrongText);
            fails("lay " + wrongText, b, ARGUMENT, b::lay);
            is("lay " + wrongText + ": the buffer stays", b.clearBuffer(), wrongText.length());
        }
    }

    // ---- promises 10 and 11

    private static void keepAndGoBack() {
        ShoveBeds b = with("0:8;1:9");
        b.set(5);
        b.push(2, 105);
        type(b, "2:1");
        is("keep", b.keep(0), 2);
        is("keep is not undoable", b.count(12), 3);
        fails("keep 2", b, ARGUMENT, () -> b.keep(2));
        fails("keep -1", b, ARGUMENT, () -> b.keep(-1));
        fails("keep least", b, ARGUMENT, () -> b.keep(LEAST));
        fails("keep most", b, ARGUMENT, () -> b.keep(MOST));
        fails("go back to 2", b, ARGUMENT, () -> b.goBack(2));
        fails("go back to -1", b, ARGUMENT, () -> b.goBack(-1));
        fails("go back to an empty slot", b, STATE, () -> b.goBack(1));
        b.endTurn();
        b.set(9);
        b.push(2, 3);
        is("keep an empty board", b.keep(1), 0);
        is("go back", b.goBack(0), 2);
        lane("go back", b, 0, 8);
        is("go back: setting", b.setting(), 5);
        is("go back: player", b.count(0), 0);
        is("go back: pushes", b.count(1), 1);
        is("go back: fell off", b.count(8), 1);
        is("go back: taken back", b.count(9), 0);
        is("go back: chalks", b.count(4), 0);
        is("go back: turns", b.count(7), 0);
        is("go back: saved", b.count(12), 6);
        is("go back: buffer", b.firstError(), 3);
        b.push(0, 20);
        is("the snapshot stays", b.goBack(0), 2);
        is("the other snapshot", b.goBack(1), 0);
        is("the other snapshot: chalks", b.count(4), 2);
        b.undo();
        is("undone", b.count(2), 2);
        lay(b, "1:1");
        is("keep in place of another", b.keep(0), 1);
        b.begin();
        is("go back to that", b.goBack(0), 1);
        lane("go back to that", b, 1, 1);
        b.undo();
        b.undo();
        is("the slot is none of the state", b.goBack(0), 1);

        ShoveBeds few = with("1:5");
        few.keep(1);
        few.goBack(1);
        is("go back is undoable, also if it changes nothing", few.count(12), 2);
    }

    // ---- promise 12

    private static void undoRestores() {
        ShoveBeds b = new ShoveBeds();
        long first = b.digest();
        b.push(0, 15);
        long second = b.digest();
        b.set(2);
        b.push(0, 150);
        is("undo", b.undo(), 2);
        is("undo: nudges so far", b.count(10), 0);
        is("undo what changed nothing", b.undo(), 1);
        is("as before", b.digest(), second);
        is("undo the first", b.undo(), 0);
        is("as at first", b.digest(), first);
        fails("undo nothing", b, STATE, b::undo);
        ShoveBeds won = wonGame();
        won.undo();
        is("a won game goes on", won.count(6), 0);
        is("a won game goes on: coins", won.count(2), 9);
    }

    private static void undoKeepsSixStates() {
        ShoveBeds b = new ShoveBeds();
        for (int value = 3; value <= 10; value++) {
            b.set(value);
            is("saved", b.count(12), Math.min(6, value - 2));
        }
        for (int left = 5; left >= 0; left--) {
            is("undo", b.undo(), left);
            is("setting", b.setting(), 4 + left);
        }
        fails("the oldest ones are dropped", b, STATE, b::undo);
        is("the dropped one", b.setting(), 4);
        b.set(15);
        is("saved again", b.count(12), 1);
        is("undo again", b.undo(), 0);
        is("setting again", b.setting(), 4);
    }

    // ---- promises 13 to 16

    private static void coinTellsPlaces() {
        ShoveBeds b = with("1:30;1:3;1:77");
        lane("coins", b, 1, 3, 30, 77);
        is("far rank", b.coin(1, MOST), ShoveBeds.NONE);
        is("rank 20", b.coin(1, 20), ShoveBeds.NONE);
        is("rank 21", b.coin(1, 21), ShoveBeds.NONE);
        fails("coin lane 3", b, INDEX, () -> b.coin(3, 0));
        fails("coin lane -1", b, INDEX, () -> b.coin(-1, -1));
        fails("coin rank -1", b, ARGUMENT, () -> b.coin(0, -1));
        fails("coin rank least", b, ARGUMENT, () -> b.coin(0, LEAST));
    }

    private static void bedOfTellsNumbers() {
        ShoveBeds b = new ShoveBeds();
        turn(b, "0:8;1:10");
        turn(b, "0:8;1:10;2:10");
        lay(b, "0:12;1:11;0:21");
        int[] due = {2, 2, 3, 1, 0};
        for (int what = 0; what < 5; what++) {
            is("bed 0, number " + what, b.bedOf(0, what), due[what]);
        }
        b.endTurn();
        lay(b, "0:12;0:21");
        is("the player 1 would get in the bed 0", b.bedOf(0, 3), 0);
        is("the player 0 would get in the bed 0", b.bedOf(0, 4), 0);
        is("the player 1 would get in the bed 1", b.bedOf(1, 3), 1);
        is("the player 0 would get in the bed 1", b.bedOf(1, 4), 0);
        fails("bed 9", b, INDEX, () -> b.bedOf(9, 0));
        fails("bed -1", b, INDEX, () -> b.bedOf(-1, 5));
        fails("bed most", b, INDEX, () -> b.bedOf(MOST, 0));
        fails("bed's number 5", b, ARGUMENT, () -> b.bedOf(8, 5));
        fails("bed's number -1", b, ARGUMENT, () -> b.bedOf(0, -1));
    }

    private static void bedsHaveEdges() {
        ShoveBeds b = new ShoveBeds();
        for (int place = 0; place < 100; place++) {
            lay(b, "0:" + place);
            int bed = place / 10 - (place % 10 <= 2 ? 1 : 0);
            boolean clean = bed >= 0 && bed <= 8 && (place % 10 >= 8 || place % 10 <= 2);
            is("clean at " + place, b.count(3), clean ? 1 : 0);
            if (clean) {
                is("in its bed at " + place, b.bedOf(bed, 0), 1);
            }
            if (place == 50) {
                b = new ShoveBeds();
            }
        }
    }

    private static void countTellsNumbers() {
        ShoveBeds b = with("0:8;0:25;2:18");
        b.push(1, 3);
        b.push(1, 120);
        b.push(0, 10);
        lay(b, "0:8;0:8");
        is("player", b.count(0), 0);
        is("pushes", b.count(1), 3);
        is("coins", b.count(2), 4);
        is("clean coins", b.count(3), 2);
        is("fell off", b.count(8), 1);
        is("taken back", b.count(9), 1);
        is("nudges", b.count(10), 1);
        is("refused", b.count(11), 1);
        is("saved", b.count(12), 5);
        b.endTurn();
        is("player behind it", b.count(0), 1);
        is("pushes behind it", b.count(1), 0);
        is("chalks of 0", b.count(4), 2);
        is("chalks of 1", b.count(5), 0);
        is("goes on", b.count(6), 0);
        is("turns", b.count(7), 1);
        turn(b, "0:8");
        is("chalks of 1 behind it", b.count(5), 1);
        fails("count 13", b, ARGUMENT, () -> b.count(13));
        fails("count -1", b, ARGUMENT, () -> b.count(-1));
        fails("count least", b, ARGUMENT, () -> b.count(LEAST));
        fails("count most", b, ARGUMENT, () -> b.count(MOST));
        is("setting", b.setting(), 2);
        b.set(11);
        is("setting behind it", b.setting(), 11);
    }

    // ---- promise 17

    private static void endsAt(String what, ShoveBeds b, int lane, int strength, int due) {
        is(what + ", place by place", b.ends(lane, strength, 0), due);
        is(what + ", at once", b.ends(lane, strength, 1), due);
    }

    private static void endsTellsThePlace() {
        ShoveBeds b = with("0:0;1:20;1:25;2:99");
        long before = b.digest();
        endsAt("nudged from below", b, 0, 6, 4);
        endsAt("nudged from below, and stays", b, 0, 2, 0);
        endsAt("nudged from below, and falls off", b, 0, 150, 100);
        endsAt("taken back", b, 2, 1, -4);
        endsAt("taken back at -1", b, 2, 4, -1);
        endsAt("at 0", b, 2, 5, 0);
        endsAt("touches", b, 1, 20, 15);
        endsAt("nudges one that stays", b, 1, 21, 20);
        endsAt("nudges one that has none left", b, 1, 22, 20);
        endsAt("nudges two, the last one stays", b, 1, 23, 25);
        endsAt("nudges two, the last one moves", b, 1, 25, 26);
        endsAt("touches the last one", b, 2, 99, 94);
        endsAt("nudges the last one", b, 2, 102, 100);
        endsAt("nudges the last one in vain", b, 2, 101, 99);
        is("ends changes nothing", b.digest(), before);
        fails("ends lane 3", b, INDEX, () -> b.ends(3, 0, 2));
        fails("ends lane -1", b, INDEX, () -> b.ends(-1, 1, 0));
        fails("ends strength 0", b, ARGUMENT, () -> b.ends(0, 0, 0));
        fails("ends strength 151", b, ARGUMENT, () -> b.ends(0, 151, 1));
        fails("ends number 2", b, ARGUMENT, () -> b.ends(0, 1, 2));
        fails("ends number -1", b, ARGUMENT, () -> b.ends(0, 1, -1));
        ShoveBeds empty = new ShoveBeds();
        endsAt("falls off", empty, 0, 105, 100);
        endsAt("falls off far", empty, 0, 150, 100);
        endsAt("on the edge", empty, 0, 104, 99);
    }

    // ---- promise 18

    private static void ifPushedCounts() {
        ShoveBeds b = with("0:10;1:10;2:15");
        long before = b.digest();
        is("nudged within the bed", b.ifPushed(1, 14), 2);
        is("nudged out of the bed", b.ifPushed(1, 15), 1);
        is("nudged to 13", b.ends(1, 15, 1), 13);
        is("a third one", b.ifPushed(2, 15), 3);
        is("stops short of the bed", b.ifPushed(2, 12), 2);
        is("one is clean, one falls off", b.ifPushed(2, 150), 3);
        is("ifPushed changes nothing", b.digest(), before);
        b.push(2, 1);
        b.push(2, 1);
        b.push(2, 1);
        b.push(2, 1);
        is("the fifth push makes no chalks", b.ifPushed(2, 15), 3);
        is("the fifth push is not made", b.count(1), 4);
        fails("ifPushed lane 3", b, INDEX, () -> b.ifPushed(3, 151));
        fails("ifPushed lane -1", b, INDEX, () -> b.ifPushed(-1, 1));
        fails("ifPushed strength 0", b, ARGUMENT, () -> b.ifPushed(0, 0));
        fails("ifPushed strength 151", b, ARGUMENT, () -> b.ifPushed(0, 151));
    }

    // ---- promise 19

    private static void strengthForFindsTheLeast() {
        ShoveBeds empty = new ShoveBeds();
        for (int bed = 0; bed < 9; bed++) {
            is("empty lane", empty.strengthFor(bed % 3, bed), 13 + 10 * bed);
        }
        ShoveBeds b = with("0:10;1:5;2:99");
        long before = b.digest();
        is("a second coin has no room", b.strengthFor(0, 0), ShoveBeds.NONE);
        is("a nudged coin comes", b.strengthFor(0, 1), 20);
        is("a nudged coin comes from near", b.strengthFor(1, 0), 10);
        is("it falls off instead", b.strengthFor(2, 8), 93);
        is("behind a nudge", b.strengthFor(0, 8), 90);
        is("strengthFor changes nothing", b.digest(), before);
        ShoveBeds weak = with("0:0;0:5");
        weak.set(20);
        is("behind two dear nudges", weak.strengthFor(0, 8), 2 * 20 + 88 - 5);
        ShoveBeds row = with("0:0;0:5;0:10;0:15;0:20;0:25;0:30");
        row.set(16);
        is("the greatest strength", row.strengthFor(0, 6), 150);
        row.set(17);
        is("more than the greatest strength", row.strengthFor(0, 6), ShoveBeds.NONE);
        ShoveBeds shut = with("0:0;0:5;0:10;0:15;0:20;0:25;0:30");
        shut.set(20);
        is("none", shut.strengthFor(0, 8), ShoveBeds.NONE);
        fails("strengthFor lane 3", b, INDEX, () -> b.strengthFor(3, 0));
        fails("strengthFor lane -1", b, INDEX, () -> b.strengthFor(-1, 0));
        fails("strengthFor bed 9", b, INDEX, () -> b.strengthFor(0, 9));
        fails("strengthFor bed -1", b, INDEX, () -> b.strengthFor(0, -1));
    }

    // ---- promise 20

    private static void bestPushFindsTheLead() {
        ShoveBeds b = new ShoveBeds();
        is("the least strength of the lowest lane", b.bestPush(), 13);
        b.push(0, 15);
        is("the lane 0 can lead by one only", b.bestPush(), 1013);
        is("bestPush changes nothing", b.count(12), 1);

        ShoveBeds full = new ShoveBeds();
        turn(full, "0:8;1:8;2:8");
        full.endTurn();
        is("a full bed goes to the other", full.bestPush(), 23);
        full.endTurn();
        is("the other player", full.bestPush(), 13);

        ShoveBeds out = new ShoveBeds();
        turn(out, "0:8;1:8;2:8");
        turn(out, "0:18;1:18;2:18");
        lay(out, "0:5;1:10;2:15");
        // The coin at 10 would be the other player's: nudged to 20 it is one's own.
        is("away from the full bed", out.bestPush(), 1020);

        ShoveBeds two = new ShoveBeds();
        turn(two, "0:8;1:8");
        two.endTurn();
        is("the third chalk", two.bestPush(), 13);

        // Beds 2 to 5 are full: the last coin of the row leads in the bed 6 alone.
        ShoveBeds far = new ShoveBeds();
        turn(far, "0:28;1:29;2:30;" + BEDS_3_TO_5);
        far.endTurn();
        far.set(16);
        lay(far, "0:0;0:5;0:10;0:15;0:20;0:25;0:30;1:70;2:70");
        is("the greatest strength is the best", far.bestPush(), 150);

        ShoveBeds won = wonGame();
        is("nothing leads in a won game", won.bestPush(), 1);
    }

    // ---- promises 21 and 22

    private static void fullnessIsAShare() {
        ShoveBeds b = new ShoveBeds();
        is("empty", Double.doubleToLongBits(b.fullness()), 0L);
        turn(b, "0:8;1:18;2:88");
        turn(b, "0:8;1:18");
        is("five", Double.doubleToLongBits(b.fullness()), Double.doubleToLongBits(5 / 54.0));
        is("half", Double.doubleToLongBits(wonGame().fullness()), Double.doubleToLongBits(0.5));
    }

    private static long digestBy(ShoveBeds b, String buffer, int slot0, int slot1) {
        java.util.ArrayList<Long> values = new java.util.ArrayList<>();
        for (int what = 0; what <= 12; what++) {
            values.add((long) b.count(what));
        }
        values.add((long) b.setting());
        for (int lane = 0; lane < 3; lane++) {
            for (int rank = 0; b.coin(lane, rank) != ShoveBeds.NONE; rank++) {
                values.add((long) b.coin(lane, rank));
            }
            for (int strength : new int[] {30, 75, 120}) {
                values.add((long) b.ends(lane, strength, 0));
                values.add((long) b.ends(lane, strength, 1));
            }
            values.add((long) b.ifPushed(lane, 50));
            values.add((long) b.ifPushed(lane, 100));
        }
        for (int bed = 0; bed < 9; bed++) {
            for (int what = 0; what <= 4; what++) {
                values.add((long) b.bedOf(bed, what));
            }
            for (int lane = 0; lane < 3; lane++) {
                values.add((long) b.strengthFor(lane, bed));
            }
        }
        values.add((long) b.bestPush());
        values.add(Double.doubleToLongBits(b.fullness()));
        values.add((long) slot0);
        values.add((long) slot1);
        values.add((long) buffer.length());
        for (char c : buffer.toCharArray()) {
            values.add((long) c);
        }
        long hash = 3637;
        for (long value : values) {
            hash = 31 * hash + value;
        }
        return hash;
    }

    private static void digestIsDue(String what, ShoveBeds b, String buffer, int slot0, int slot1) {
        is("digest: " + what, b.digest(), digestBy(b, buffer, slot0, slot1));
    }

    private static void digestFollowsTheList() {
        digestIsDue("new", new ShoveBeds(), "", 0, 0);
        ShoveBeds kept = new ShoveBeds();
        kept.keep(1);
        digestIsDue("slot 1", kept, "", 0, 1);
        ShoveBeds typed = new ShoveBeds();
        type(typed, "~x0:!");
        digestIsDue("buffer", typed, "~x0:!", 0, 0);
        ShoveBeds b = new ShoveBeds();
        turn(b, "0:8;1:19;2:28;2:33");
        lay(b, "0:40;1:31;0:3");
        b.set(0);
        b.keep(0);
        b.keep(1);
        digestIsDue("coins", b, "", 1, 1);
        digestOfARow("0:0;1:5;0:5;2:10;0:10", 6);
        digestOfARow("0:0;0:5;0:10;0:15;0:20;0:25;0:30", 6);
        is("the digest changes nothing", b.digest(), b.digest());
    }

    /** With these rows 49, 50 and 51, and 99, 100 and 101 tell different numbers of clean coins. */
    private static void digestOfARow(String coins, int value) {
        ShoveBeds b = with(coins);
        b.set(value);
        digestIsDue("row", b, "", 0, 0);
    }

    /** Chalk by chalk, so that the bits of each share are looked at. */
    private static void digestOfEveryFullness() {
        for (int chalks = 1; chalks <= 51; chalks++) {
            digestIsDue(chalks + " chalks", withChalks(chalks), "", 0, 0);
        }
        ShoveBeds b = nearlyFull();
        turn(b, "0:88");
        is("53 chalks", b.count(4) + b.count(5), 53);
        digestIsDue("53 chalks", b, "", 0, 0);
    }

    private static ShoveBeds withChalks(int chalks) {
        ShoveBeds b = new ShoveBeds();
        for (int made = 0; made < chalks; made += 3) {
            int place = 10 * (made / 6) + 8;
            String coins = "0:" + place;
            for (int lane = 1; lane < Math.min(3, chalks - made); lane++) {
                coins += ";" + lane + ":" + place;
            }
            turn(b, coins);
        }
        is("chalks", b.count(4) + b.count(5), chalks);
        return b;
    }
}
