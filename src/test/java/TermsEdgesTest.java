/** The edges that the document names ahead of the promises: sentence by sentence of "Terms". */
public final class TermsEdgesTest {
    public static void main(String[] args) {
        board();
        pushing();
        turns();
        gameOver();
        settings();
        inputText();
        snapshotsAndUndo();
        exceptions();
        calls();
        Watch.end();
    }

    // ---- the board

    private static void board() {
        lanesAreNumbered();
        lanesDoNotTouch();
        placesAreInARange();
        coinsAreNotNearerThanFive();
        bedsAreNumbered();
        bedsHaveEdges();
    }

    private static void lanesAreNumbered() {
        Watch.says("The board has 3 lanes, numbered from 0");
        for (int lane = 0; lane < 3; lane++) {
            ShoveBeds b = new ShoveBeds();
            Watch.is("push on the lane " + lane, b.push(lane, 15), 0);
            for (int other = 0; other < 3; other++) {
                Watch.lane(b, other, other == lane ? "10" : "");
            }
        }
        Watch.lane(Watch.with("0:1;1:2;2:3"), 0, "1");
        Watch.lane(Watch.with("0:1;1:2;2:3"), 1, "2");
        Watch.lane(Watch.with("0:1;1:2;2:3"), 2, "3");
    }

    private static void lanesDoNotTouch() {
        Watch.says("lanes, numbered from 0, that do not touch one another");
        Watch.is("the same place on each lane", Watch.lay(new ShoveBeds(), "0:50;1:50;2:50"), 3);
        Watch.is("near places on the lanes", Watch.lay(new ShoveBeds(), "0:50;1:51;2:49"), 3);
        for (int lane = 0; lane < 3; lane++) {
            int first = (lane + 1) % 3;
            int second = (lane + 2) % 3;
            ShoveBeds b = Watch.with(first + ":0;" + second + ":2");
            Watch.is("a push beside two coins", b.push(lane, 6), 0);
            Watch.lane(b, lane, "1");
            Watch.lane(b, first, "0");
            Watch.lane(b, second, "2");
        }
    }

    private static void placesAreInARange() {
        Watch.says("On a lane a coin has a place, 0 to 99");
        ShoveBeds b = new ShoveBeds();
        b.push(0, 5);
        b.push(1, 104);
        b.push(2, 4);
        b.push(2, 105);
        Watch.lane(b, 0, "0");
        Watch.lane(b, 1, "99");
        Watch.lane(b, 2, "");
        Watch.lane(Watch.with("0:99;0:0"), 0, "0 99");
    }

    private static void coinsAreNotNearerThanFive() {
        Watch.says("no two coins of a lane are nearer than 5");
        for (int apart = 0; apart <= 6; apart++) {
            int due = apart < 5 ? Watch.NONE : 2;
            for (int lane = 0; lane < 3; lane++) {
                String near = lane + ":50";
                Watch.is("behind, apart " + apart, Watch.lay(new ShoveBeds(), near + ";" + lane + ":" + (50 + apart)), due);
                Watch.is("ahead, apart " + apart, Watch.lay(new ShoveBeds(), near + ";" + lane + ":" + (50 - apart)), due);
            }
        }
        Watch.is("between two", Watch.lay(new ShoveBeds(), "1:20;1:30;1:25"), 3);
        Watch.is("too near to the one behind", Watch.lay(new ShoveBeds(), "1:21;1:30;1:25"), Watch.NONE);
        Watch.is("too near to the one ahead", Watch.lay(new ShoveBeds(), "1:20;1:29;1:25"), Watch.NONE);
        for (int strength = 1; strength <= 150; strength++) {
            ShoveBeds b = Watch.with("0:3;0:9;0:14;0:40", strength % 21);
            b.push(0, strength);
            for (int rank = 1; b.coin(0, rank) != Watch.NONE; rank++) {
                Watch.is("far enough behind the strength " + strength, b.coin(0, rank) - b.coin(0, rank - 1) >= 5 ? 1 : 0, 1);
            }
        }
    }

    private static void bedsAreNumbered() {
        Watch.says("There are 9 beds, numbered from 0");
        for (int bed = 0; bed < 9; bed++) {
            ShoveBeds b = Watch.with("1:" + (10 * bed + 10));
            for (int other = 0; other < 9; other++) {
                Watch.is("coin of the bed " + bed + " in the bed " + other, b.bedOf(other, 0), other == bed ? 1 : 0);
            }
        }
    }

    private static void bedsHaveEdges() {
        Watch.says("a coin lies clean in the bed k, if its place is from 10 * k and 8 to 10 * k and 12");
        for (int bed = 0; bed < 9; bed++) {
            for (int offset = 8; offset <= 12; offset++) {
                ShoveBeds b = Watch.with("2:" + (10 * bed + offset));
                Watch.is("bed " + bed + " at the offset " + offset, b.bedOf(bed, 0), 1);
                Watch.is("clean coins at the offset " + offset, b.count(3), 1);
            }
        }
        Watch.says("otherwise it lies in none");
        for (int tens = 0; tens < 100; tens += 10) {
            for (int ones = 3; ones <= 7; ones++) {
                inNoBed(tens + ones);
            }
        }
        for (int place : new int[] {0, 1, 2, 98, 99}) {
            inNoBed(place);
        }
    }

    private static void inNoBed(int place) {
        ShoveBeds b = Watch.with("0:" + place);
        Watch.is("clean coins at " + place, b.count(3), 0);
        for (int bed = 0; bed < 9; bed++) {
            Watch.is("place " + place + " in the bed " + bed, b.bedOf(bed, 0), 0);
        }
        Watch.is("chalks of the place " + place, b.endTurn(), 0);
    }

    // ---- pushing

    private static void pushing() {
        itBeginsBelowTheBoard();
        itNudgesWithStrengthLeft();
        itTouchesBeforeItNudges();
        theNudgedTakesOver();
        theNudgedStays();
        rowsAreNudged();
        coinsFallOff();
        coinsAreTakenBack();
    }

    private static void itBeginsBelowTheBoard() {
        Watch.says("It begins at the place -5, and goes on place by place, each of which takes 1 of its strength");
        for (int strength = 1; strength <= 150; strength++) {
            ShoveBeds b = new ShoveBeds();
            int end = strength - 5;
            b.push(1, strength);
            Watch.lane(b, 1, end >= 0 && end < 100 ? Integer.toString(end) : "");
            Watch.is("taken back with " + strength, b.count(9), end < 0 ? 1 : 0);
            Watch.is("fell off with " + strength, b.count(8), end >= 100 ? 1 : 0);
        }
    }

    private static void itNudgesWithStrengthLeft() {
        Watch.says("it stops where its strength is 0. If it has strength left ...");
        ShoveBeds b = Watch.with("0:20", 0);
        Watch.is("no strength left where it touches", b.push(0, 20), 0);
        Watch.lane(b, 0, "15 20");
        ShoveBeds more = Watch.with("0:20", 0);
        Watch.is("1 left where it touches", more.push(0, 21), 1);
        Watch.lane(more, 0, "15 21");
    }

    private static void itTouchesBeforeItNudges() {
        Watch.says("and the next place would be nearer than 5 to a coin ahead of it, it stops there");
        for (int place = 0; place < 100; place++) {
            ShoveBeds b = Watch.with("2:" + place, 20);
            Watch.is("nudges at " + place, b.push(2, place + 1), 1);
            Watch.lane(b, 2, place < 5 ? "" + place : place - 5 + " " + place);
        }
        ShoveBeds behind = Watch.with("0:30;0:36", 0);
        behind.push(0, 31);
        Watch.lane(behind, 0, "25 31 36");
        ShoveBeds touched = Watch.with("0:30;0:35", 0);
        touched.push(0, 32);
        Watch.lane(touched, 0, "25 30 37");
    }

    private static void theNudgedTakesOver() {
        Watch.says("this one takes over what is left of the strength, less setting 0, if that is above 0");
        for (int value = 0; value <= 20; value++) {
            ShoveBeds b = Watch.with("0:20", value);
            Watch.is("1 is left less " + value, b.push(0, 20 + value + 1), 1);
            Watch.lane(b, 0, "15 21");
            ShoveBeds far = Watch.with("0:20", value);
            Watch.is("60 are left less " + value, far.push(0, 80), 1);
            Watch.lane(far, 0, "15 " + (80 - value));
        }
    }

    private static void theNudgedStays() {
        Watch.says("otherwise it stays where it is (it was nudged all the same)");
        for (int value = 1; value <= 20; value++) {
            for (int left = 1; left <= value; left++) {
                ShoveBeds b = Watch.with("1:20;1:25", value);
                Watch.is(left + " left less " + value, b.push(1, 20 + left), 1);
                Watch.lane(b, 1, "15 20 25");
                Watch.is("nudges so far", b.count(10), 1);
            }
        }
    }

    private static void rowsAreNudged() {
        Watch.says("and goes on in the same way");
        ShoveBeds first = Watch.with("0:10;0:15;0:20", 3);
        Watch.is("the second one stays with 0", first.push(0, 16), 2);
        Watch.lane(first, 0, "5 10 15 20");
        ShoveBeds second = Watch.with("0:10;0:15;0:20", 3);
        Watch.is("the third one is nudged with 1 left", second.push(0, 17), 3);
        Watch.lane(second, 0, "5 10 15 20");
        ShoveBeds third = Watch.with("0:10;0:15;0:20", 3);
        Watch.is("the third one goes on", third.push(0, 20), 3);
        Watch.lane(third, 0, "5 10 15 21");

        // The longest row that calls can make: twelve coins are laid, and four pushed up to them.
        ShoveBeds longest = Watch.full();
        Watch.is("sixteen coins", longest.count(2), 16);
        Watch.is("the last one stops at 99", longest.ends(0, 24, 0), 99);
        Watch.is("sixteen nudges", longest.push(0, 150), 16);
        Watch.is("the last one fell off", longest.count(8), 1);
        Watch.is("chalks behind the fifth push", longest.count(4), 8);
    }

    private static void coinsFallOff() {
        Watch.says("A coin that comes to the place 100 falls off, and takes its strength with it");
        ShoveBeds edge = Watch.with("0:99;1:99;2:94", 0);
        edge.push(0, 100);
        Watch.lane(edge, 0, "94");
        edge.push(1, 99);
        Watch.lane(edge, 1, "94 99");
        edge.push(2, 99);
        Watch.lane(edge, 2, "89 99");
        Watch.is("one fell off", edge.count(8), 1);
        edge.push(2, 150);
        // 56 are left where the coin at 99 is nudged, and all of them fall off with it.
        Watch.lane(edge, 2, "84 94");
        Watch.is("two fell off", edge.count(8), 2);
        Watch.is("nudges so far", edge.count(10), 4);
        ShoveBeds alone = Watch.with("1:50");
        Watch.is("none is nudged by the one that falls off", alone.push(0, 150), 0);
        Watch.lane(alone, 0, "");
        Watch.lane(alone, 1, "50");
    }

    private static void coinsAreTakenBack() {
        Watch.says("A coin that stops below the place 0 (it was pushed too weakly ...) is taken back");
        for (int strength = 1; strength <= 5; strength++) {
            ShoveBeds b = new ShoveBeds();
            Watch.is("push " + strength, b.push(0, strength), 0);
            Watch.is("taken back with " + strength, b.count(9), strength < 5 ? 1 : 0);
            Watch.is("coins with " + strength, b.count(2), strength < 5 ? 0 : 1);
        }
        Watch.says("(... or nudged a coin there) is taken back");
        for (int place = 0; place <= 5; place++) {
            ShoveBeds b = Watch.with("0:" + place, 0);
            Watch.is("nudges " + place, b.push(0, 150), 1);
            Watch.is("taken back behind " + place, b.count(9), place < 5 ? 1 : 0);
            Watch.lane(b, 0, place < 5 ? "" : "0");
            Watch.is("fell off behind " + place, b.count(8), 1);
        }
        Watch.says("it is none of the lane, but it was pushed");
        ShoveBeds pushed = Watch.with("0:3");
        pushed.push(1, 1);
        pushed.push(0, 6);
        Watch.is("pushes", pushed.count(1), 2);
        Watch.is("coins", pushed.count(2), 1);
        Watch.lane(pushed, 0, "4");
        Watch.is("nothing is on its way", pushed.push(1, 30), 0);
        Watch.lane(pushed, 1, "25");
    }

    // ---- turns, chalks

    private static void turns() {
        thePlayersTakeTurns();
        aTurnIsFivePushes();
        aPushThatDoesNotCount();
        chalksUpToThree();
        chalksWithinATurn();
        coinsAreTakenOff();
    }

    private static void thePlayersTakeTurns() {
        Watch.says("There are two players, 0 and 1; the player 0 begins ... it is the other player's turn");
        ShoveBeds b = new ShoveBeds();
        for (int turn = 0; turn < 6; turn++) {
            Watch.is("player of the turn " + turn, b.count(0), turn % 2);
            b.endTurn();
        }
        for (int push = 0; push < 20; push++) {
            Watch.is("player of the push " + push, b.count(0), push / 5 % 2);
            b.push(push % 3, 1 + 7 * push);
        }
    }

    private static void aTurnIsFivePushes() {
        Watch.says("A turn is 5 pushes. Behind the fifth one the chalks are made");
        ShoveBeds b = new ShoveBeds();
        int[] strengths = {20, 20, 10, 10};
        for (int push = 1; push <= 4; push++) {
            b.push(push % 2, strengths[push - 1]);
            Watch.is("pushes", b.count(1), push);
            Watch.is("turns", b.count(7), 0);
            Watch.is("coins", b.count(2), push);
            Watch.is("chalks", b.count(4) + b.count(5), 0);
        }
        b.push(2, 93);
        Watch.is("pushes behind the fifth", b.count(1), 0);
        Watch.is("turns behind the fifth", b.count(7), 1);
        Watch.is("chalks behind the fifth", b.count(4), 1);
        Watch.is("the fifth one's bed", b.bedOf(8, 1), 1);
        Watch.is("coins behind the fifth", b.count(2), 0);
        Watch.is("saved states", b.count(12), 5);
        ShoveBeds weak = new ShoveBeds();
        for (int push = 1; push <= 5; push++) {
            weak.push(push % 3, push % 2 == 0 ? 1 : 150);
        }
        Watch.is("coins that fell off or were taken back are pushes too", weak.count(7), 1);
    }

    private static void aPushThatDoesNotCount() {
        Watch.says("A turn is 5 pushes: what throws is none, and what is given up begins anew");
        ShoveBeds b = new ShoveBeds();
        for (int push = 0; push < 4; push++) {
            b.push(0, 2);
        }
        Watch.same("thrown", thrownBy(b, 0, 151), "java.lang.IllegalArgumentException");
        Watch.same("thrown", thrownBy(b, 3, 1), "java.lang.IndexOutOfBoundsException");
        Watch.is("pushes", b.count(1), 4);
        b.endTurn();
        Watch.is("pushes behind it", b.count(1), 0);
        b.push(0, 2);
        Watch.is("turns", b.count(7), 1);
        Watch.is("pushes of the next turn", b.count(1), 1);
    }

    private static String thrownBy(ShoveBeds b, int lane, int strength) {
        try {
            b.push(lane, strength);
            return "nothing";
        } catch (RuntimeException e) {
            return e.getClass().getName();
        }
    }

    private static void chalksUpToThree() {
        Watch.says("the player whose turn it is gets a chalk in this bed, if there are fewer than 3 of this player in it; "
                + "otherwise the other player gets it, if there are fewer than 3; otherwise it is nothing");
        for (int own = 0; own <= 3; own++) {
            for (int other = 0; other <= 3; other++) {
                for (int coins = 0; coins <= 3; coins++) {
                    chalksFrom(own, other, coins, (own + 2 * other + coins) % 9);
                }
            }
        }
    }

    private static void chalksFrom(int own, int other, int coins, int bed) {
        for (int player = 0; player < 2; player++) {
            ShoveBeds b = new ShoveBeds();
            if (player == 1) {
                b.endTurn();
            }
            endTurnWith(b, own, 10 * bed + 8);
            endTurnWith(b, other, 10 * bed + 10);
            String what = "player " + player + ", bed " + bed + ": " + own + ", " + other + " and " + coins + " coins";
            int made = endTurnWith(b, coins, 10 * bed + 12);
            int ownDue = Math.min(3, own + coins);
            int otherDue = Math.min(3, other + own + coins - ownDue);
            Watch.is(what + ": own", b.bedOf(bed, 1 + player), ownDue);
            Watch.is(what + ": other", b.bedOf(bed, 2 - player), otherDue);
            Watch.is(what + ": made", made, ownDue - own + otherDue - other);
            Watch.is(what + ": own of all beds", b.count(4 + player), ownDue);
            Watch.is(what + ": other of all beds", b.count(5 - player), otherDue);
        }
    }

    private static int endTurnWith(ShoveBeds b, int coins, int place) {
        return coins == 0 ? b.endTurn() : Watch.turn(b, Watch.row(coins, place));
    }

    private static void chalksWithinATurn() {
        Watch.says("bed by bed from the bed 0 on ...: for each coin that lies clean in the bed");
        ShoveBeds b = new ShoveBeds();
        Watch.turn(b, "0:8;1:8;0:88;1:88;2:88");
        Watch.is("chalks in the bed 0", b.bedOf(0, 1), 2);
        Watch.is("chalks in the bed 8", b.bedOf(8, 1), 3);
        b.endTurn();
        Watch.is("one is one's own, two are too much, as three are", Watch.turn(b, "0:12;1:12;2:12;0:92;1:92;2:92"), 6);
        Watch.is("own in the bed 0", b.bedOf(0, 1), 3);
        Watch.is("the other's in the bed 0", b.bedOf(0, 2), 2);
        Watch.is("own in the bed 8", b.bedOf(8, 1), 3);
        Watch.is("the other's in the bed 8", b.bedOf(8, 2), 3);
        Watch.is("no chalk for a coin that touches a line", Watch.turn(b, "0:7;1:13;2:93;0:98;1:0;2:55"), 0);
    }

    private static void coinsAreTakenOff() {
        Watch.says("Then all coins are taken off");
        ShoveBeds b = Watch.with("0:0;0:99;1:50;2:12");
        b.endTurn();
        Watch.is("coins", b.count(2), 0);
        for (int lane = 0; lane < 3; lane++) {
            Watch.lane(b, lane, "");
        }
        Watch.is("they did not fall off", b.count(8), 0);
        Watch.is("they were not taken back", b.count(9), 0);
        Watch.is("a push on a free lane", b.push(0, 150), 0);
    }

    private static void gameOver() {
        oneChalkIsMissing();
        itIsOverBehindATurn();
        theOtherHasWon();
        bothHaveAll();
        aFifthPushEndsIt();
    }

    private static void oneChalkIsMissing() {
        Watch.says("The game is over, as soon as a player has 3 chalks in each bed");
        for (int bed = 0; bed < 9; bed++) {
            ShoveBeds b = new ShoveBeds();
            for (int other = 0; other < 9; other++) {
                if (other != bed) {
                    b.endTurn();
                    b.endTurn();
                    Watch.turn(b, Watch.row(3, 10 * other + 10));
                    b.endTurn();
                }
            }
            Watch.turn(b, Watch.row(2, 10 * bed + 10));
            Watch.is("26 chalks", b.count(4), 26);
            Watch.is("26 chalks: goes on", b.count(6), 0);
            Watch.is("26 chalks: the player 1", b.count(0), 1);
            b.endTurn();
            Watch.turn(b, Watch.row(1, 10 * bed + 10));
            Watch.is("27 chalks", b.count(4), 27);
            Watch.is("27 chalks: won", b.count(6), 1);
        }
    }

    private static void itIsOverBehindATurn() {
        Watch.says("behind the chalks of a turn");
        ShoveBeds b = new ShoveBeds();
        Watch.turn(b, BEDS[0]);
        b.endTurn();
        Watch.turn(b, BEDS[1]);
        b.endTurn();
        Watch.lay(b, BEDS[2]);
        Watch.is("the coins lie there", b.count(6), 0);
        b.push(0, 1);
        Watch.is("a push is made", b.count(6), 0);
        Watch.is("the turn is given up", b.endTurn(), 9);
        Watch.is("won", b.count(6), 1);
        Watch.is("the player whose turn was the last", b.count(0), 0);
        Watch.is("turns", b.count(7), 5);
        Watch.is("all coins are taken off", b.count(2), 0);
        Watch.is("pushes", b.count(1), 0);
        ShoveBeds second = new ShoveBeds();
        second.endTurn();
        for (String beds : BEDS) {
            Watch.is("the player 1", second.count(0), 1);
            Watch.turn(second, beds);
            second.endTurn();
        }
        Watch.is("the player 1 has won", second.count(6), 2);
        Watch.is("the player 1 had the last turn", second.count(0), 1);
        Watch.is("a refused end is no turn", second.count(7), 6);
        Watch.is("a refused end is counted", second.count(11), 1);
    }

    private static final String[] BEDS = {Watch.BEDS_0_TO_2, Watch.BEDS_3_TO_5, Watch.BEDS_6_TO_8};

    private static void theOtherHasWon() {
        Watch.says("as soon as a player has 3 chalks in each bed: by the other one's turn, too");
        ShoveBeds b = new ShoveBeds();
        Watch.turn(b, BEDS[0]);
        Watch.turn(b, "0:90;1:90;2:90");
        Watch.turn(b, BEDS[1]);
        b.endTurn();
        Watch.turn(b, Watch.ALL_BUT_ONE);
        Watch.is("not yet", b.count(6), 0);
        Watch.is("the player 1 makes the last chalk of the player 0", Watch.turn(b, "2:88"), 1);
        Watch.is("the player 0 has won", b.count(6), 1);
        Watch.is("the turn of the player 1 was the last", b.count(0), 1);
        Watch.is("chalks of the player 1", b.count(5), 3);
        Watch.is("no further push", b.push(0, 15), Watch.NONE);
        Watch.is("the player stays behind it", b.count(0), 1);
    }

    private static void bothHaveAll() {
        Watch.says("this player has won (if both have, the one whose turn it was)");
        ShoveBeds first = Watch.nearlyFull();
        Watch.is("one for both", Watch.turn(first, "0:88;1:90"), 2);
        Watch.is("both have all", first.count(4) * 100 + first.count(5), 2727);
        Watch.is("the player 0 has won", first.count(6), 1);
        Watch.is("the player 0 had the last turn", first.count(0), 0);
        ShoveBeds second = Watch.nearlyFull();
        second.endTurn();
        Watch.is("one for both again", Watch.turn(second, "0:88;1:90"), 2);
        Watch.is("both have all again", second.count(4) * 100 + second.count(5), 2727);
        Watch.is("the player 1 has won", second.count(6), 2);
        Watch.is("the player 1 had the last turn", second.count(0), 1);
        ShoveBeds one = Watch.nearlyFull();
        Watch.is("one for the player 0 alone", Watch.turn(one, "0:88"), 1);
        Watch.is("the player 0 alone has won", one.count(6), 1);
    }

    private static void aFifthPushEndsIt() {
        Watch.says("Behind the fifth one the chalks are made ... The game is over, as soon as ...");
        // 86 are taken on the way to the coin at 86, and 2 by the nudge: it comes to strength - 2.
        for (int strength : new int[] {89, 90, 94, 95}) {
            ShoveBeds b = Watch.nearlyFull();
            for (int push = 0; push < 4; push++) {
                b.push(2, 1);
            }
            Watch.lay(b, "0:86");
            Watch.is("four pushes", b.count(6) * 10 + b.count(1), 4);
            boolean clean = strength >= 90 && strength <= 94;
            Watch.is("the fifth push nudges", b.push(0, strength), 1);
            Watch.is("over with " + strength, b.count(6), clean ? 1 : 0);
            Watch.is("player with " + strength, b.count(0), clean ? 0 : 1);
            Watch.is("pushes with " + strength, b.count(1), 0);
            Watch.is("coins with " + strength, b.count(2), 0);
            Watch.is("turns with " + strength, b.count(7), 7);
            Watch.is("a sixth push", b.push(0, 15), clean ? Watch.NONE : 0);
        }
    }

    // ---- settings

    private static void settings() {
        Watch.says("what a nudge takes, 0 to 20, at first 2");
        ShoveBeds b = Watch.with("0:20");
        Watch.is("at first", b.setting(), 2);
        Watch.is("2 are taken", b.ends(0, 22, 0), 20);
        Watch.is("3 less 2", b.ends(0, 23, 0), 21);
        b.set(0);
        Watch.is("nothing is taken", b.ends(0, 21, 0), 21);
        b.set(20);
        Watch.is("20 are taken", b.ends(0, 40, 0), 20);
        Watch.is("21 less 20", b.ends(0, 41, 0), 21);
        Watch.fails("21", Watch.ARGUMENT, () -> Watch.with("0:20"), x -> x.set(21));
        Watch.fails("-1", Watch.ARGUMENT, () -> Watch.with("0:20"), x -> x.set(-1));
    }

    // ---- input text

    private static void inputText() {
        theBufferHasRoomForSixty();
        eachCharacterInEachPlace();
        placesWithoutLeadingZeros();
        textsOfAnyLength();
        nearCoinsAreNoSyntaxError();
    }

    private static void theBufferHasRoomForSixty() {
        Watch.says("The buffer has at most 60 characters");
        ShoveBeds b = new ShoveBeds();
        for (int length = 1; length <= 60; length++) {
            Watch.is("length", b.append('0' + length % 10), length);
        }
        Watch.fails("the 61st", Watch.STATE, Watch::full, x -> x.append('0'));
        Watch.is("sixty", b.clearBuffer(), 60);
        Watch.is("the first one again", b.append('0'), 1);
    }

    /** What may follow each prefix is written out: all other characters are errors there. */
    private static void eachCharacterInEachPlace() {
        Watch.says("the digit of a lane, 0 to 2, \":\", and a place, 0 to 99, with \";\" between them");
        String[][] prefixes = {
            {"", "012"}, {"0", ":"}, {"1", ":"}, {"2", ":"}, {"0:", "0123456789"}, {"2:", "0123456789"},
            {"0:0", ";"}, {"0:1", "0123456789;"}, {"1:9", "0123456789;"}, {"0:10", ";"}, {"0:99", ";"},
            {"0:5;", "012"}, {"0:55;", "012"}, {"0:0;", "012"}, {"0:5;2", ":"}, {"0:5;2:", "0123456789"},
            {"0:5;2:0", ";"}, {"0:5;2:1", "0123456789;"}, {"0:5;2:90", ";"},
        };
        for (String[] prefix : prefixes) {
            for (int code = 33; code <= 126; code++) {
                ShoveBeds b = new ShoveBeds();
                Watch.type(b, prefix[0]);
                b.append(code);
                boolean good = prefix[1].indexOf(code) >= 0;
                int due = prefix[0].length() + (good ? 1 : 0);
                Watch.is("first error of " + prefix[0] + (char) code, b.firstError(), due);
            }
        }
    }

    private static void placesWithoutLeadingZeros() {
        Watch.says("a place, 0 to 99, without leading zeros");
        for (int place = 0; place <= 99; place++) {
            Watch.lane(Watch.with("1:" + place), 1, Integer.toString(place));
        }
        for (String wrong : new String[] {"0:00", "0:01", "0:09", "0:010", "0:100", "0:999"}) {
            ShoveBeds b = new ShoveBeds();
            Watch.type(b, wrong);
            Watch.is("first error of " + wrong, b.firstError(), wrong.charAt(2) == '0' ? 3 : 4);
        }
    }

    private static void textsOfAnyLength() {
        Watch.says("a syntax error if no coins as a text, of any length, begin with the characters before it and this one");
        String[] begun = {"0", "0:", "0:5;", "0:5;1", "0:5;1:", "2:99;"};
        for (String text : begun) {
            ShoveBeds b = new ShoveBeds();
            Watch.type(b, text);
            Watch.is("first error of " + text, b.firstError(), text.length());
        }
        ShoveBeds sixty = new ShoveBeds();
        Watch.type(sixty, Watch.TWELVE + ";");
        Watch.is("sixty characters that would go on", sixty.firstError(), 60);
        ShoveBeds last = new ShoveBeds();
        Watch.type(last, Watch.TWELVE + ":");
        Watch.is("the sixtieth character is an error", last.firstError(), 59);
        ShoveBeds first = new ShoveBeds();
        Watch.type(first, ":" + Watch.TWELVE);
        Watch.is("the first of sixty is an error", first.firstError(), 0);
        ShoveBeds two = new ShoveBeds();
        Watch.type(two, "0:5;;x");
        Watch.is("the first of three errors", two.firstError(), 4);
    }

    private static void nearCoinsAreNoSyntaxError() {
        Watch.says("(Coins that are too near to one another are no syntax error.)");
        for (String near : new String[] {"0:5;0:5", "0:5;0:9", "1:99;1:95;1:99"}) {
            ShoveBeds b = new ShoveBeds();
            Watch.type(b, near);
            Watch.is("first error of " + near, b.firstError(), near.length());
            Watch.is("lay " + near, b.lay(), Watch.NONE);
        }
    }

    // ---- snapshots, undo

    private static void snapshotsAndUndo() {
        thereAreTwoSlots();
        aSnapshotIsAllBut();
        aSavedStateIsAllBut();
        undoableThoughNothingChanges();
        someAreNotUndoable();
        sixStatesAreSaved();
    }

    private static void thereAreTwoSlots() {
        Watch.says("There are two slots");
        ShoveBeds b = Watch.with("0:1");
        b.keep(0);
        Watch.lay(b, "0:2;1:2");
        b.keep(1);
        Watch.lay(b, "0:3;1:3;2:3");
        Watch.is("the slot 0", b.goBack(0), 1);
        Watch.is("the slot 1", b.goBack(1), 2);
        Watch.lane(b, 0, "2");
        b.goBack(0);
        Watch.lane(b, 0, "1");
    }

    private static void aSnapshotIsAllBut() {
        Watch.says("a snapshot is all but the buffer, the slots and the saved states");
        ShoveBeds b = Watch.busy();
        Watch.lay(b, "0:8;0:8");
        b.keep(0);
        String looks = Watch.looks(b);
        long refused = b.count(11);
        b.begin();
        b.set(17);
        b.push(0, 150);
        b.keep(1);
        Watch.lay(b, "0:8;0:8");
        Watch.type(b, "1:7;2");
        b.clearBuffer();
        Watch.type(b, "2:2");
        Watch.is("coins", b.goBack(0), 4);
        Watch.same("all that is a game's", Watch.looks(b), looks);
        Watch.is("refused so far", b.count(11), refused);
        Watch.is("the saved states are not gone back", b.count(12), 6);
        Watch.is("the buffer is not gone back", b.firstError(), 3);
        Watch.is("the slots are not gone back", b.goBack(1), 0);
        Watch.is("setting of the slot 1", b.setting(), 17);
    }

    private static void aSavedStateIsAllBut() {
        Watch.says("saves the state from before it: all, also what is counted so far, but the buffer, the slots and the saved states");
        ShoveBeds b = Watch.with("0:20;1:0", 4);
        b.push(0, 25);
        b.push(1, 1);
        b.push(2, 150);
        String looks = Watch.looks(b);
        b.push(0, 150);
        b.keep(1);
        Watch.type(b, "x");
        Watch.is("undo", b.undo(), 5);
        Watch.same("all that is a game's", Watch.looks(b), looks);
        Watch.is("the buffer stays", b.firstError(), 0);
        Watch.is("the buffer's length stays", b.clearBuffer(), 1);
        Watch.is("the slot stays", b.goBack(1), 3);
        Watch.lay(b, "0:1;0:1");
        Watch.is("refused", b.count(11), 1);
        b.undo();
        Watch.is("what is refused is counted back, too", b.count(11), 0);
    }

    private static void undoableThoughNothingChanges() {
        Watch.says("Each method that is marked \"undoable\" ... saves the state from before it (also if it changes nothing)");
        Watch.isUndoableEverywhere("set to the same", x -> x.set(x.setting()));
        Watch.isUndoable("begin on a new board", Watch::made, ShoveBeds::begin);
        ShoveBeds same = Watch.with("0:5;1:7");
        Watch.is("the same coins", Watch.lay(same, "1:7;0:5"), 2);
        Watch.is("the same coins: saved", same.count(12), 2);
        ShoveBeds kept = new ShoveBeds();
        kept.keep(0);
        Watch.is("the same snapshot", kept.goBack(0), 0);
        Watch.is("the same snapshot: saved", kept.count(12), 1);
        Watch.says("(... or is refused)");
        Watch.isUndoable("a refused push", Watch::over, x -> x.push(1, 15));
        Watch.isUndoable("a refused end", Watch::over, ShoveBeds::endTurn);
        Watch.isUndoable("a refused push, one state saved", Watch::overAndGoneBack, x -> x.push(1, 15));
        Watch.isUndoable("a refused end, one state saved", Watch::overAndGoneBack, ShoveBeds::endTurn);
    }

    private static void someAreNotUndoable() {
        Watch.says("Each method that is marked \"undoable\": the others save nothing");
        ShoveBeds b = Watch.busy();
        Watch.is("saved", b.count(12), 5);
        b.append('x');
        b.firstError();
        b.clearBuffer();
        b.keep(0);
        b.keep(1);
        b.digest();
        b.bestPush();
        Watch.is("saved behind them", b.count(12), 5);
        Watch.is("undo saves nothing", b.undo(), 4);
        Watch.is("undo again", b.undo(), 3);
        Watch.is("saved behind undo", b.count(12), 3);
        Watch.says("and does not throw an exception");
        Watch.fails("push", Watch.INDEX, Watch::busy, x -> x.push(3, 1));
        Watch.fails("set", Watch.ARGUMENT, Watch::busy, x -> x.set(21));
        Watch.fails("lay", Watch.ARGUMENT, Watch::busy, ShoveBeds::lay);
        Watch.fails("goBack", Watch.STATE, Watch::full, x -> x.goBack(0));
    }

    private static void sixStatesAreSaved() {
        Watch.says("At most 6 states are saved; the oldest one is dropped first");
        for (int calls = 0; calls <= 20; calls++) {
            ShoveBeds b = new ShoveBeds();
            for (int value = 0; value < calls; value++) {
                b.set(value);
                Watch.is("saved", b.count(12), Math.min(6, value + 1));
            }
            for (int left = Math.min(6, calls) - 1; left >= 0; left--) {
                Watch.is("undo", b.undo(), left);
                int before = calls - Math.min(6, calls) + left - 1;
                Watch.is("setting", b.setting(), before < 0 ? 2 : before);
            }
            Watch.is("saved behind all", b.count(12), 0);
        }
        // Two more and one less in each round: the saved states wrap around with a gap at their end.
        ShoveBeds mixed = new ShoveBeds();
        for (int round = 0; round < 15; round++) {
            mixed.set(round);
            mixed.set(20);
            Watch.is("undo one of two", mixed.undo(), Math.min(5, round + 1));
            Watch.is("setting behind one of two", mixed.setting(), round);
        }
        for (int left = 4; left >= 0; left--) {
            Watch.is("undo the rest", mixed.undo(), left);
            Watch.is("setting behind the rest", mixed.setting(), 9 + left);
        }
    }

    // ---- exceptions

    private static void exceptions() {
        Watch.says("If several exceptions apply, the one that is named first in the throws clause is thrown");
        Watch.failsEverywhere("push", Watch.INDEX, x -> x.push(3, 151));
        Watch.failsEverywhere("push below", Watch.INDEX, x -> x.push(-1, 0));
        Watch.failsEverywhere("coin", Watch.INDEX, x -> x.coin(3, -1));
        Watch.failsEverywhere("coin below", Watch.INDEX, x -> x.coin(-1, -1));
        Watch.failsEverywhere("bedOf", Watch.INDEX, x -> x.bedOf(9, 5));
        Watch.failsEverywhere("bedOf below", Watch.INDEX, x -> x.bedOf(-1, -1));
        Watch.failsEverywhere("ends", Watch.INDEX, x -> x.ends(3, 151, 2));
        Watch.failsEverywhere("ends below", Watch.INDEX, x -> x.ends(-1, 0, -1));
        Watch.failsEverywhere("ends, strength", Watch.INDEX, x -> x.ends(3, 151, 0));
        Watch.failsEverywhere("ends, what", Watch.INDEX, x -> x.ends(3, 1, 2));
        Watch.failsEverywhere("ifPushed", Watch.INDEX, x -> x.ifPushed(3, 151));
        Watch.failsEverywhere("ifPushed below", Watch.INDEX, x -> x.ifPushed(-1, 0));
        Watch.failsEverywhere("strengthFor", Watch.INDEX, x -> x.strengthFor(3, 9));
        Watch.fails("append to sixty", Watch.ARGUMENT, Watch::full, x -> x.append(127));
        Watch.fails("goBack, the slot is none", Watch.ARGUMENT, Watch::full, x -> x.goBack(2));
        Watch.says("A call that throws an exception changes nothing, and is not refused, in a game that is over");
        Watch.fails("push over", Watch.ARGUMENT, Watch::over, x -> x.push(0, 0));
        Watch.fails("push over, the lane", Watch.INDEX, Watch::overAndGoneBack, x -> x.push(-1, 15));
    }

    // ---- the calls that an object is used for

    private static void calls() {
        Watch.says("An object is used for at most 512 calls after it has been made");
        ShoveBeds set = new ShoveBeds();
        for (int call = 1; call <= 512; call++) {
            Watch.is("call " + call, set.set(call % 21), call == 1 ? 2 : (call - 1) % 21);
        }
        ShoveBeds turns = new ShoveBeds();
        for (int call = 1; call < 512; call++) {
            turns.endTurn();
        }
        Watch.is("turns", turns.count(7), 511);
        ShoveBeds fell = new ShoveBeds();
        for (int call = 1; call < 512; call++) {
            fell.push(call % 3, 150);
        }
        Watch.is("fell off", fell.count(8), 511);
        ShoveBeds back = new ShoveBeds();
        for (int call = 1; call < 512; call++) {
            back.push(call % 3, 1 + call % 4);
        }
        Watch.is("taken back", back.count(9), 511);
        manyAreRefused();
        slotsAndUndosToTheEnd();
    }

    private static void manyAreRefused() {
        ShoveBeds b = Watch.over();
        for (int call = 1; call <= 300; call++) {
            Watch.is("refused", call % 2 == 0 ? b.push(0, 15) : b.endTurn(), Watch.NONE);
        }
        Watch.is("refused so far", b.count(11), 300);
        for (int left = 5; left >= 0; left--) {
            b.undo();
        }
        Watch.is("refused behind six undos", b.count(11), 294);
        Watch.is("it is over still", b.count(6), 1);
    }

    private static void slotsAndUndosToTheEnd() {
        ShoveBeds b = new ShoveBeds();
        for (int round = 0; round < 128; round++) {
            b.push(0, 5 + round % 90);
            b.keep(round % 2);
            b.goBack(round % 2);
            Watch.is("undo", b.undo(), Math.min(5, round + 1));
        }
        ShoveBeds typed = new ShoveBeds();
        for (int round = 0; round < 8; round++) {
            for (int length = 1; length <= 60; length++) {
                Watch.is("typed", typed.append(33 + (round + length) % 94), length);
            }
            Watch.is("cleared", typed.clearBuffer(), 60);
        }
    }
}
