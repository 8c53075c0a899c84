/**
 * A board on which coins are shoved into beds: two players push coins on three lanes, and keep a
 * chalk for each coin that lies clean in a bed behind a turn of five pushes.
 */
public final class ShoveBeds {
    /** There is nothing to return. */
    public static final int NONE = -1;

    private static final int LANES = 3;
    private static final int BEDS = 9;
    private static final int PLAYERS = 2;

    private static final int START = -5;
    private static final int EDGE = 100;
    private static final int NEAREST = 5;
    private static final int MOST_STRENGTH = 150;
    private static final int PUSHES_OF_A_TURN = 5;

    private static final int BED_LENGTH = 10;
    private static final int FIRST_CLEAN_PLACE = 8;
    private static final int LAST_CLEAN_OFFSET = 4;
    private static final int FULL_BED = 3;
    private static final int ALL_CHALKS = 54;

    private static final int FIRST_SETTING = 2;
    private static final int MOST_SETTING = 20;
    private static final int SLOTS = 2;
    private static final int MOST_SAVED = 6;
    private static final int MOST_CHARACTERS = 60;
    private static final int FIRST_CODE = 33;
    private static final int LAST_CODE = 126;

    // Twenty coins that are 5 apart fit on a lane; one more is under way while it is pushed.
    private static final int LANE_ROOM = 21;

    private static final int BED_NUMBERS = 5;
    private static final int COUNTS = 13;
    private static final int LANE_FACTOR = 1000;

    private static final long FIRST_HASH = 3637L;
    private static final long HASH_FACTOR = 31L;

    private static final int MANTISSA_BITS = 52;
    private static final long EXPONENT_OF_ONE = 1023L;
    private static final long MANTISSA_UNITS = 1L << MANTISSA_BITS;

    private final Board board = new Board();
    private final Board[] slots = new Board[SLOTS];
    private final SavedStates saved = new SavedStates();
    private final CoinText text = new CoinText();

    // Used again by every call, so that a call makes no objects.
    private final Shove shove = new Shove();
    private final Lanes laid = new Lanes();
    private final int[] cleanCoins = new int[BEDS];

    /** Creates a board without coins and chalks, with empty slots and an empty buffer. */
    public ShoveBeds() {
    }

    // ---- pushes

    /** Pushes a coin; returns how many coins are nudged, or NONE if the game is over. */
    public int push(int lane, int strength) throws IndexOutOfBoundsException, IllegalArgumentException {
        requireLane(lane);
        requireStrength(strength);
        saved.add(board);
        if (board.isOver()) {
            return board.refuse();
        }
        shove.placeByPlace(board.lanes.lane(lane), strength, board.nudgeCost);
        board.takeOver(lane, shove);
        if (board.pushes >= PUSHES_OF_A_TURN) {
            board.closeTurn();
        }
        return shove.nudges;
    }

    /** Makes the chalks now; returns how many, or NONE if the game is over. */
    public int endTurn() {
        saved.add(board);
        if (board.isOver()) {
            return board.refuse();
        }
        return board.closeTurn();
    }

    /** Begins a new game; returns how many chalks both players had. */
    public int begin() {
        saved.add(board);
        int had = board.allChalks();
        board.restart();
        return had;
    }

    /** Changes what a nudge takes; returns what it took before. */
    public int set(int value) throws IllegalArgumentException {
        if (value < 0 || value > MOST_SETTING) {
            throw new IllegalArgumentException("a setting is 0 to 20");
        }
        saved.add(board);
        int previous = board.nudgeCost;
        board.nudgeCost = value;
        return previous;
    }

    // ---- texts, snapshots

    /** Appends a character to the buffer; returns the new length. */
    public int append(int code) throws IllegalArgumentException, IllegalStateException {
        if (code < FIRST_CODE || code > LAST_CODE) {
            throw new IllegalArgumentException("a character code is 33 to 126");
        }
        if (text.isFull()) {
            throw new IllegalStateException("the buffer has 60 characters");
        }
        text.add(code);
        return text.length;
    }

    /** Clears the buffer; returns the length that it had. */
    public int clearBuffer() {
        int had = text.length;
        text.clear();
        return had;
    }

    /** Returns the index of the first syntax error, or the length of the buffer. */
    public int firstError() {
        return text.errorIndex();
    }

    /** Lays the coins of the buffer; returns how many there are, or NONE if two are too near. */
    public int lay() throws IllegalArgumentException {
        if (!text.isWhole()) {
            throw new IllegalArgumentException("the buffer does not tell coins");
        }
        saved.add(board);
        boolean fits = text.putOn(laid);
        text.clear();
        if (!fits) {
            return board.refuse();
        }
        board.lanes.copyFrom(laid);
        return board.lanes.coins();
    }

    /** Takes a snapshot; returns how many coins there are. */
    public int keep(int slot) throws IllegalArgumentException {
        requireSlot(slot);
        Board kept = snapshotIn(slot);
        if (kept == null) {
            kept = new Board();
            putInSlot(slot, kept);
        }
        kept.copyFrom(board);
        return board.lanes.coins();
    }

    /** Goes back to a snapshot; returns how many coins there are then. */
    public int goBack(int slot) throws IllegalArgumentException, IllegalStateException {
        requireSlot(slot);
        Board kept = snapshotIn(slot);
        if (kept == null) {
            throw new IllegalStateException("there is no snapshot in the slot");
        }
        saved.add(board);
        board.copyFrom(kept);
        return board.lanes.coins();
    }

    /** Restores the latest saved state; returns how many are left. */
    public int undo() throws IllegalStateException {
        if (saved.size == 0) {
            throw new IllegalStateException("there is no saved state");
        }
        saved.takeLatest(board);
        return saved.size;
    }

    // ---- looks; nothing is changed

    /** Returns the place of a coin, or NONE if the lane has not so many. */
    public int coin(int lane, int rank) throws IndexOutOfBoundsException, IllegalArgumentException {
        requireLane(lane);
        if (rank < 0) {
            throw new IllegalArgumentException("a rank is from 0");
        }
        return board.lanes.lane(lane).placeAt(rank);
    }

    /** Returns a number of a bed: its clean coins, its chalks, the chalks that would be got in it. */
    public int bedOf(int bed, int what) throws IndexOutOfBoundsException, IllegalArgumentException {
        requireBed(bed);
        if (what < 0 || what >= BED_NUMBERS) {
            throw new IllegalArgumentException("a number of a bed is 0 to 4");
        }
        int clean = board.lanes.cleanIn(bed);
        switch (what) {
            case 0:
                return clean;
            case 1:
                return board.chalksIn(bed, 0);
            case 2:
                return board.chalksIn(bed, 1);
            case 3:
                return board.ownGain(bed, clean);
            default:
                return board.otherGain(bed, clean);
        }
    }

    /** Returns one of the numbers 0 to 12 of the whole board. */
    public int count(int what) throws IllegalArgumentException {
        if (what < 0 || what >= COUNTS) {
            throw new IllegalArgumentException("a number of the board is 0 to 12");
        }
        switch (what) {
            case 0:
                return board.player;
            case 1:
                return board.pushes;
            case 2:
                return board.lanes.coins();
            case 3:
                return board.lanes.cleanCoins();
            case 4:
                return board.chalksOf(0);
            case 5:
                return board.chalksOf(1);
            case 6:
                return board.winner;
            case 7:
                return board.turns;
            case 8:
                return board.fellOff;
            case 9:
                return board.takenBack;
            case 10:
                return board.nudges;
            case 11:
                return board.refused;
            default:
                return saved.size;
        }
    }

    /** Returns what a nudge takes. */
    public int setting() {
        return board.nudgeCost;
    }

    // ---- what would be; nothing is changed, whether the game is over or not

    /** Returns where the last coin that is pushed or nudged would be behind a push. */
    public int ends(int lane, int strength, int what)
            throws IndexOutOfBoundsException, IllegalArgumentException {
        requireLane(lane);
        requireStrength(strength);
        if (what < 0 || what > 1) {
            throw new IllegalArgumentException("a push is told in the way 0 or 1");
        }
        if (what == 0) {
            shove.placeByPlace(board.lanes.lane(lane), strength, board.nudgeCost);
        } else {
            tryPush(lane, strength);
        }
        return shove.place;
    }

    /** Returns how many coins of all lanes would lie clean behind a push, without chalks. */
    public int ifPushed(int lane, int strength) throws IndexOutOfBoundsException, IllegalArgumentException {
        requireLane(lane);
        requireStrength(strength);
        tryPush(lane, strength);
        int others = board.lanes.cleanCoins() - board.lanes.lane(lane).cleanCoins();
        return others + shove.lane.cleanCoins();
    }

    /** Returns the least strength that brings a bed a clean coin more, or NONE. */
    public int strengthFor(int lane, int bed) throws IndexOutOfBoundsException {
        requireLane(lane);
        requireBed(bed);
        // The other lanes stay as they are, so that this lane alone decides.
        int now = board.lanes.lane(lane).cleanIn(bed);
        for (int strength = 1; strength <= MOST_STRENGTH; strength++) {
            tryPush(lane, strength);
            if (shove.lane.cleanIn(bed) > now) {
                return strength;
            }
        }
        return NONE;
    }

    /** Returns 1000 times the lane and the strength of the push with the greatest lead in chalks. */
    public int bestPush() {
        int best = NONE;
        int greatestLead = 0;
        for (int lane = 0; lane < LANES; lane++) {
            for (int strength = 1; strength <= MOST_STRENGTH; strength++) {
                int lead = leadBehind(lane, strength);
                if (best == NONE || lead > greatestLead) {
                    best = LANE_FACTOR * lane + strength;
                    greatestLead = lead;
                }
            }
        }
        return best;
    }

    /** Returns the share of all chalks that are made. */
    public double fullness() {
        return (double) board.allChalks() / ALL_CHALKS;
    }

    /** Returns a hash of the whole state. */
    public long digest() {
        long hash = FIRST_HASH;
        for (int what = 0; what < COUNTS; what++) {
            hash = mix(hash, count(what));
        }
        hash = mix(hash, setting());
        for (int lane = 0; lane < LANES; lane++) {
            hash = mixLane(hash, lane);
        }
        for (int bed = 0; bed < BEDS; bed++) {
            hash = mixBed(hash, bed);
        }
        hash = mix(hash, bestPush());
        hash = mix(hash, bitsOfShare(fullness()));
        for (int slot = 0; slot < SLOTS; slot++) {
            hash = mix(hash, snapshotIn(slot) == null ? 0 : 1);
        }
        return mixText(hash);
    }

    // ---- the parts of the digest

    private static long mix(long hash, long value) {
        return HASH_FACTOR * hash + value;
    }

    private long mixLane(long before, int lane) {
        long hash = before;
        Lane coins = board.lanes.lane(lane);
        for (int rank = 0; rank < coins.size; rank++) {
            hash = mix(hash, coins.placeAt(rank));
        }
        // The strengths 30, 75 and 120.
        for (int strength = 30; strength <= 120; strength += 45) {
            hash = mix(hash, ends(lane, strength, 0));
            hash = mix(hash, ends(lane, strength, 1));
        }
        hash = mix(hash, ifPushed(lane, 50));
        return mix(hash, ifPushed(lane, 100));
    }

    private long mixBed(long before, int bed) {
        long hash = before;
        for (int what = 0; what < BED_NUMBERS; what++) {
            hash = mix(hash, bedOf(bed, what));
        }
        for (int lane = 0; lane < LANES; lane++) {
            hash = mix(hash, strengthFor(lane, bed));
        }
        return hash;
    }

    private long mixText(long before) {
        long hash = mix(before, text.length);
        for (int i = 0; i < text.length; i++) {
            hash = mix(hash, text.codeAt(i));
        }
        return hash;
    }

    /**
     * The bits of a double from 0 to 1. They are put together by hand, as the library that the
     * program may use has no function for them. Doubling is exact, and so is every step here.
     */
    private static long bitsOfShare(double share) {
        if (share <= 0.0) {
            return 0L;
        }
        double scaled = share;
        long exponent = EXPONENT_OF_ONE;
        for (int i = 0; i < EXPONENT_OF_ONE && scaled < 1.0; i++) {
            scaled = scaled * 2.0;
            exponent--;
        }
        return (exponent << MANTISSA_BITS) + (long) ((scaled - 1.0) * MANTISSA_UNITS);
    }

    // ---- trials

    private void tryPush(int lane, int strength) {
        shove.coinByCoin(board.lanes.lane(lane), strength, board.nudgeCost);
    }

    /** The chalks that the player would get more than the other one behind a push. */
    private int leadBehind(int lane, int strength) {
        tryPush(lane, strength);
        for (int bed = 0; bed < BEDS && bed < cleanCoins.length; bed++) {
            cleanCoins[bed] = 0;
        }
        for (int other = 0; other < LANES; other++) {
            Lane coins = other == lane ? shove.lane : board.lanes.lane(other);
            coins.addClean(cleanCoins);
        }
        return board.leadFor(cleanCoins);
    }

    // ---- slots

    private Board snapshotIn(int slot) {
        return slot >= 0 && slot < slots.length ? slots[slot] : null;
    }

    private void putInSlot(int slot, Board kept) {
        if (slot >= 0 && slot < slots.length) {
            slots[slot] = kept;
        }
    }

    // ---- what the arguments must be

    private static void requireLane(int lane) {
        if (lane < 0 || lane >= LANES) {
            throw new IndexOutOfBoundsException("a lane is 0 to 2");
        }
    }

    private static void requireBed(int bed) {
        if (bed < 0 || bed >= BEDS) {
            throw new IndexOutOfBoundsException("a bed is 0 to 8");
        }
    }

    private static void requireStrength(int strength) {
        if (strength < 1 || strength > MOST_STRENGTH) {
            throw new IllegalArgumentException("a strength is 1 to 150");
        }
    }

    private static void requireSlot(int slot) {
        if (slot < 0 || slot >= SLOTS) {
            throw new IllegalArgumentException("a slot is 0 or 1");
        }
    }

    /** The bed in which a coin at the place lies clean, or NONE. */
    private static int bedAt(int place) {
        int beyond = place - FIRST_CLEAN_PLACE;
        if (beyond < 0 || beyond % BED_LENGTH > LAST_CLEAN_OFFSET) {
            return NONE;
        }
        int bed = beyond / BED_LENGTH;
        return bed < BEDS ? bed : NONE;
    }

    /** The coins of one lane by rising places. */
    private static final class Lane {
        private final int[] places = new int[LANE_ROOM];
        private int size;

        private int placeAt(int rank) {
            return rank >= 0 && rank < size && rank < places.length ? places[rank] : NONE;
        }

        private void move(int rank, int place) {
            if (rank >= 0 && rank < size && rank < places.length) {
                places[rank] = place;
            }
        }

        private void clear() {
            size = 0;
        }

        private void copyFrom(Lane other) {
            size = other.size;
            for (int i = 0; i < size && i < places.length && i < other.places.length; i++) {
                places[i] = other.places[i];
            }
        }

        /** Puts a coin among the others, unless it would be too near to one of them. */
        private boolean insert(int place) {
            int rank = 0;
            for (int i = 0; i < size && i < places.length; i++) {
                if (Math.abs(place - places[i]) < NEAREST) {
                    return false;
                }
                if (places[i] < place) {
                    rank = i + 1;
                }
            }
            insertAt(rank, place);
            return true;
        }

        private void insertAt(int rank, int place) {
            if (rank < 0 || rank > size || size >= places.length) {
                return;
            }
            for (int i = size; i > rank; i--) {
                places[i] = places[i - 1];
            }
            places[rank] = place;
            size++;
        }

        private void removeFirst() {
            for (int i = 1; i < size && i < places.length; i++) {
                places[i - 1] = places[i];
            }
            if (size > 0) {
                size--;
            }
        }

        private void removeLast() {
            if (size > 0) {
                size--;
            }
        }

        private int cleanIn(int bed) {
            int clean = 0;
            for (int i = 0; i < size && i < places.length; i++) {
                if (bedAt(places[i]) == bed) {
                    clean++;
                }
            }
            return clean;
        }

        private int cleanCoins() {
            int clean = 0;
            for (int i = 0; i < size && i < places.length; i++) {
                if (bedAt(places[i]) != NONE) {
                    clean++;
                }
            }
            return clean;
        }

        private void addClean(int[] beds) {
            for (int i = 0; i < size && i < places.length; i++) {
                int bed = bedAt(places[i]);
                if (bed >= 0 && bed < beds.length) {
                    beds[bed]++;
                }
            }
        }
    }

    /** The three lanes, which do not touch one another. */
    private static final class Lanes {
        private final Lane first = new Lane();
        private final Lane second = new Lane();
        private final Lane third = new Lane();

        private Lane lane(int number) {
            if (number == 0) {
                return first;
            }
            return number == 1 ? second : third;
        }

        private void clear() {
            first.clear();
            second.clear();
            third.clear();
        }

        private void copyFrom(Lanes other) {
            first.copyFrom(other.first);
            second.copyFrom(other.second);
            third.copyFrom(other.third);
        }

        private int coins() {
            return first.size + second.size + third.size;
        }

        private int cleanCoins() {
            return first.cleanCoins() + second.cleanCoins() + third.cleanCoins();
        }

        private int cleanIn(int bed) {
            return first.cleanIn(bed) + second.cleanIn(bed) + third.cleanIn(bed);
        }
    }

    /**
     * One push, on a lane of its own that is a copy of the board's: afterwards the lane is as it
     * would be behind the push, and the place is that of the last coin that was pushed or nudged.
     */
    private static final class Shove {
        private final Lane lane = new Lane();
        private int nudgeCost;
        private int rank;
        private int place;
        private int left;
        private int nudges;
        private boolean fellOff;
        private boolean takenBack;

        private void placeByPlace(Lane before, int strength, int cost) {
            start(before, strength, cost);
            // Each round takes a strength, or goes on to a further coin.
            int rounds = strength + LANE_ROOM;
            for (int i = 0; i < rounds && left > 0; i++) {
                if (roomAhead() > 0) {
                    goOn(1);
                } else {
                    nudgeNext();
                }
            }
            finish();
        }

        private void coinByCoin(Lane before, int strength, int cost) {
            start(before, strength, cost);
            for (int i = 0; i < LANE_ROOM && left > 0; i++) {
                goOn(Math.min(left, roomAhead()));
                if (left > 0) {
                    nudgeNext();
                }
            }
            finish();
        }

        private void start(Lane before, int strength, int cost) {
            lane.copyFrom(before);
            lane.insertAt(0, START);
            nudgeCost = cost;
            rank = 0;
            place = START;
            left = strength;
            nudges = 0;
        }

        /** The places that the coin can go before it touches the next one or falls off. */
        private int roomAhead() {
            int end = rank + 1 < lane.size ? lane.placeAt(rank + 1) - NEAREST : EDGE;
            return end - place;
        }

        private void goOn(int places) {
            place += places;
            left -= places;
            if (place >= EDGE) {
                left = 0;
            }
        }

        private void nudgeNext() {
            lane.move(rank, place);
            rank++;
            place = lane.placeAt(rank);
            left -= nudgeCost;
            nudges++;
        }

        private void finish() {
            lane.move(rank, place);
            fellOff = place >= EDGE;
            if (fellOff) {
                lane.removeLast();
            }
            takenBack = lane.size > 0 && lane.placeAt(0) < 0;
            if (takenBack) {
                lane.removeFirst();
            }
        }
    }

    /** All that a snapshot and a saved state hold. */
    private static final class Board {
        private final Lanes lanes = new Lanes();
        private final int[] chalks = new int[PLAYERS * BEDS];
        private int nudgeCost = FIRST_SETTING;
        private int player;
        private int pushes;
        private int winner;
        private int turns;
        private int fellOff;
        private int takenBack;
        private int nudges;
        private int refused;

        private void copyFrom(Board other) {
            lanes.copyFrom(other.lanes);
            for (int i = 0; i < chalks.length && i < other.chalks.length; i++) {
                chalks[i] = other.chalks[i];
            }
            nudgeCost = other.nudgeCost;
            player = other.player;
            pushes = other.pushes;
            winner = other.winner;
            turns = other.turns;
            fellOff = other.fellOff;
            takenBack = other.takenBack;
            nudges = other.nudges;
            refused = other.refused;
        }

        private boolean isOver() {
            return winner != 0;
        }

        private int refuse() {
            refused++;
            return NONE;
        }

        private void restart() {
            lanes.clear();
            for (int i = 0; i < chalks.length; i++) {
                chalks[i] = 0;
            }
            player = 0;
            pushes = 0;
            winner = 0;
            turns = 0;
        }

        private void takeOver(int lane, Shove shove) {
            lanes.lane(lane).copyFrom(shove.lane);
            pushes++;
            nudges += shove.nudges;
            fellOff += shove.fellOff ? 1 : 0;
            takenBack += shove.takenBack ? 1 : 0;
        }

        /** Makes the chalks of the turn and ends it; returns how many they are for both. */
        private int closeTurn() {
            int made = 0;
            for (int bed = 0; bed < BEDS; bed++) {
                int clean = lanes.cleanIn(bed);
                int own = ownGain(bed, clean);
                int other = otherGain(bed, clean);
                addChalks(bed, player, own);
                addChalks(bed, 1 - player, other);
                made += own + other;
            }
            lanes.clear();
            pushes = 0;
            turns++;
            if (hasAllBeds(player)) {
                winner = player + 1;
            } else if (hasAllBeds(1 - player)) {
                winner = 2 - player;
            } else {
                player = 1 - player;
            }
            return made;
        }

        private int ownGain(int bed, int clean) {
            return Math.min(clean, FULL_BED - chalksIn(bed, player));
        }

        /** What is too much for the player, as far as the other one has room for it. */
        private int otherGain(int bed, int clean) {
            return Math.min(clean - ownGain(bed, clean), FULL_BED - chalksIn(bed, 1 - player));
        }

        private int leadFor(int[] cleanCoins) {
            int lead = 0;
            for (int bed = 0; bed < BEDS && bed < cleanCoins.length; bed++) {
                lead += ownGain(bed, cleanCoins[bed]) - otherGain(bed, cleanCoins[bed]);
            }
            return lead;
        }

        private int chalksIn(int bed, int owner) {
            int index = owner * BEDS + bed;
            return index >= 0 && index < chalks.length ? chalks[index] : 0;
        }

        private void addChalks(int bed, int owner, int more) {
            int index = owner * BEDS + bed;
            if (index >= 0 && index < chalks.length) {
                chalks[index] += more;
            }
        }

        private int chalksOf(int owner) {
            int sum = 0;
            for (int bed = 0; bed < BEDS; bed++) {
                sum += chalksIn(bed, owner);
            }
            return sum;
        }

        private int allChalks() {
            return chalksOf(0) + chalksOf(1);
        }

        private boolean hasAllBeds(int owner) {
            return chalksOf(owner) == BEDS * FULL_BED;
        }
    }

    /** The latest saved states, in a ring, so that the oldest one makes room for a new one. */
    private static final class SavedStates {
        private final Board[] states = new Board[MOST_SAVED];
        private int oldest;
        private int size;

        private void add(Board board) {
            Board state = stateAt(oldest + size);
            state.copyFrom(board);
            if (size < MOST_SAVED) {
                size++;
            } else {
                oldest = (oldest + 1) % MOST_SAVED;
            }
        }

        private void takeLatest(Board board) {
            if (size > 0) {
                size--;
                board.copyFrom(stateAt(oldest + size));
            }
        }

        /** The board of a place in the ring, made when it is used for the first time. */
        private Board stateAt(int number) {
            int index = Math.floorMod(number, MOST_SAVED);
            if (index >= states.length) {
                return new Board();
            }
            Board state = states[index];
            if (state == null) {
                state = new Board();
                states[index] = state;
            }
            return state;
        }
    }

    /** The buffer, and coins as a text in it: "lane:place", with ";" between them. */
    private static final class CoinText {
        // What may follow the characters read so far.
        private static final int ERROR = -1;
        private static final int LANE_DUE = 0;
        private static final int COLON_DUE = 1;
        private static final int PLACE_DUE = 2;
        private static final int DIGIT_OR_END = 3;
        private static final int END_ONLY = 4;

        private final int[] codes = new int[MOST_CHARACTERS];
        private int length;

        private boolean isFull() {
            return length >= MOST_CHARACTERS;
        }

        private void add(int code) {
            if (length >= 0 && length < codes.length) {
                codes[length] = code;
                length++;
            }
        }

        private void clear() {
            length = 0;
        }

        private int codeAt(int index) {
            return index >= 0 && index < length && index < codes.length ? codes[index] : NONE;
        }

        private int errorIndex() {
            int state = LANE_DUE;
            for (int i = 0; i < length; i++) {
                state = next(state, codeAt(i));
                if (state == ERROR) {
                    return i;
                }
            }
            return length;
        }

        private boolean isWhole() {
            int state = LANE_DUE;
            for (int i = 0; i < length; i++) {
                state = next(state, codeAt(i));
            }
            return state == DIGIT_OR_END || state == END_ONLY;
        }

        private static int next(int state, int code) {
            switch (state) {
                case LANE_DUE:
                    return code >= '0' && code < '0' + LANES ? COLON_DUE : ERROR;
                case COLON_DUE:
                    return code == ':' ? PLACE_DUE : ERROR;
                case PLACE_DUE:
                    if (code == '0') {
                        return END_ONLY;
                    }
                    return isDigit(code) ? DIGIT_OR_END : ERROR;
                case DIGIT_OR_END:
                    if (isDigit(code)) {
                        return END_ONLY;
                    }
                    return code == ';' ? LANE_DUE : ERROR;
                case END_ONLY:
                    return code == ';' ? LANE_DUE : ERROR;
                default:
                    return ERROR;
            }
        }

        private static boolean isDigit(int code) {
            return code >= '0' && code <= '9';
        }

        /** Puts the coins of a whole text on empty lanes; false if two of a lane are too near. */
        private boolean putOn(Lanes lanes) {
            lanes.clear();
            int state = LANE_DUE;
            int lane = 0;
            int place = 0;
            for (int i = 0; i < length; i++) {
                int code = codeAt(i);
                if (state == LANE_DUE) {
                    lane = code - '0';
                    place = 0;
                } else if (isDigit(code)) {
                    place = 10 * place + code - '0';
                } else if (code == ';' && !lanes.lane(lane).insert(place)) {
                    return false;
                }
                state = next(state, code);
            }
            return lanes.lane(lane).insert(place);
        }
    }
}
