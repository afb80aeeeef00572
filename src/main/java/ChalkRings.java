/**
 * A game of marbles with chalk rings that grow when a marble in them is won.
 * The public methods answer what the document promises; a call that returns an error code changes nothing.
 */
public final class ChalkRings {
    /** There is no such marble, ring, point or player. */
    public static final int NO_SUCH = -1001;
    /** Another argument is out of its range. */
    public static final int BAD_VALUE = -1002;
    /** The call is not possible in the present state. */
    public static final int NOT_POSSIBLE = -1003;
    /** A limit would be exceeded. */
    public static final int LIMIT = -1004;
    /** The text is not a playground text. */
    public static final int BAD_TEXT = -1005;
    /** There is no such result; this is no error code. */
    public static final int NONE = -1006;

    private static final int EDGE = 30;
    private static final int PLAYERS = 3;
    private static final int MAX_MARBLES = 12;
    private static final int MAX_RINGS = 4;
    private static final int MAX_SIZE = 3;
    private static final int MAX_RADIUS = 15;
    private static final int MAX_STRENGTH = 40;
    private static final int MAX_HITS = 60;
    private static final int MAX_TEXT = 80;
    private static final int MAX_SAVED = 6;
    private static final int FIRST_CODE = 33;
    private static final int LAST_CODE = 126;
    private static final int COUNTS = 8;
    private static final int MARBLE_NUMBERS = 6;
    private static final int RING_NUMBERS = 5;
    private static final int FORECASTS = 5;
    private static final int HASH_START = 4;
    private static final int FINE = 0;
    private static final int NOBODY = -1;
    private static final int NO_SIGN = -1;
    private static final int[] STEP_X = {0, 1, 1, 1, 0, -1, -1, -1};
    private static final int[] STEP_Y = {-1, -1, 0, 1, 1, 1, 0, -1};

    private final Playground now;
    private final Playground trial;
    private final Roll roll;
    private final History history;
    private final ItemReader reader;

    /** Creates an empty playground. */
    public ChalkRings() {
        now = new Playground();
        trial = new Playground();
        roll = new Roll();
        history = new History();
        reader = new ItemReader();
    }

    // ---- playground

    /** Puts a new marble onto a point and returns its number. */
    public int putMarble(int x, int y, int size, int owner) {
        int refusal = now.refusalOfMarble(x, y, size, owner);
        if (refusal != FINE) {
            return refusal;
        }
        history.save(now);
        return now.addMarble(x, y, size, owner);
    }

    /** Draws a new ring and returns its number. */
    public int drawRing(int x, int y, int radius) {
        int refusal = now.refusalOfRing(x, y, radius);
        if (refusal != FINE) {
            return refusal;
        }
        history.save(now);
        return now.addRing(x, y, radius);
    }

    /** Moves a marble by hand and returns the number of rings in which it is then. */
    public int move(int marble, int x, int y) {
        Marble moved = now.findMarble(marble);
        if (moved == null || !isPoint(x, y)) {
            return NO_SUCH;
        }
        if (!moved.lies || now.marbleOn(x, y) != null) {
            return NOT_POSSIBLE;
        }
        history.save(now);
        moved.x = x;
        moved.y = y;
        return Integer.bitCount(now.ringsAround(x, y));
    }

    /** Takes everything away and returns the number of marbles that there were. */
    public int clear() {
        int before = now.placed;
        history.save(now);
        now.wipe();
        return before;
    }

    // ---- play

    /** Flicks a marble of the player on the move and returns the number of marbles that are won. */
    public int flick(int marble, int direction, int strength) {
        Marble flicked = now.findMarble(marble);
        if (flicked == null) {
            return NO_SUCH;
        }
        if (!isDirection(direction) || !isStrength(strength)) {
            return BAD_VALUE;
        }
        if (!flicked.lies || flicked.owner != now.onMove) {
            return NOT_POSSIBLE;
        }
        history.save(now);
        roll.play(now, marble, direction, strength);
        return roll.won;
    }

    /** Lets the player on the move pass and returns the player who is on the move then. */
    public int pass() {
        history.save(now);
        now.nextPlayer();
        return now.onMove;
    }

    // ---- asking

    /** Returns a number of the game. */
    public int count(int what) {
        switch (what) {
            case 0: return now.placed;
            case 1: return now.drawn;
            case 2: return now.onMove;
            case 3: return now.flicks;
            case 4: return now.hits;
            case 5: return now.won;
            case 6: return now.grown;
            case 7: return now.walls;
            default: return BAD_VALUE;
        }
    }

    /** Returns something about a marble. */
    public int marble(int marble, int what) {
        Marble asked = now.findMarble(marble);
        if (asked == null) {
            return NO_SUCH;
        }
        switch (what) {
            case 0: return asked.lies ? asked.x : NONE;
            case 1: return asked.lies ? asked.y : NONE;
            case 2: return asked.size;
            case 3: return asked.owner;
            case 4: return asked.lies ? NONE : asked.winner;
            case 5: return asked.lies ? now.ringsAround(asked.x, asked.y) : NONE;
            default: return BAD_VALUE;
        }
    }

    /** Returns something about a ring. */
    public int ring(int ring, int what) {
        Ring asked = now.findRing(ring);
        if (asked == null) {
            return NO_SUCH;
        }
        switch (what) {
            case 0: return asked.x;
            case 1: return asked.y;
            case 2: return asked.radius;
            case 3: return now.marblesIn(asked);
            case 4: return asked.pointsInside();
            default: return BAD_VALUE;
        }
    }

    /** Returns the marble on a point. */
    public int at(int x, int y) {
        if (!isPoint(x, y)) {
            return NO_SUCH;
        }
        Marble found = now.marbleOn(x, y);
        return found == null ? NONE : found.number;
    }

    /** Returns the score of a player, possibly negative. */
    public int score(int player) {
        return isPlayer(player) ? now.pointsOf(player) : NO_SUCH;
    }

    /** Returns the player with the greatest score; of several the lowest. */
    public int leader() {
        int best = 0;
        for (int player = 1; player < PLAYERS; player++) {
            if (now.pointsOf(player) > now.pointsOf(best)) {
                best = player;
            }
        }
        return best;
    }

    // ---- forecasts; they change nothing

    /** Tells what a flick would bring, as if the owner of the marble were on the move. */
    public int ifFlicked(int marble, int direction, int strength, int what) {
        Marble asked = now.findMarble(marble);
        if (asked == null) {
            return NO_SUCH;
        }
        if (!isDirection(direction) || !isStrength(strength) || what < 0 || what >= FORECASTS) {
            return BAD_VALUE;
        }
        if (!asked.lies) {
            return NOT_POSSIBLE;
        }
        tryFlick(marble, direction, strength);
        switch (what) {
            case 0: return roll.won;
            case 1: return roll.wonSizes;
            case 2: return roll.hits;
            case 3: return roll.last;
            default: return 100 * roll.lastX + roll.lastY;
        }
    }

    /** Finds the flick of a marble that would win most and returns 100 * its direction + its strength. */
    public int bestFlick(int marble) {
        Marble asked = now.findMarble(marble);
        if (asked == null) {
            return NO_SUCH;
        }
        if (!asked.lies) {
            return NOT_POSSIBLE;
        }
        int best = 0;
        int answer = NONE;
        // The strength is the outer loop: of equal winnings the least strength counts ahead of the direction.
        for (int strength = 1; strength <= MAX_STRENGTH; strength++) {
            for (int direction = 0; direction < STEP_X.length; direction++) {
                tryFlick(marble, direction, strength);
                if (roll.wonSizes > best) {
                    best = roll.wonSizes;
                    answer = 100 * direction + strength;
                }
            }
        }
        return answer;
    }

    /** Returns the least number of straight steps by which a marble comes to a point in no ring. */
    public int wayOut(int marble) {
        Marble asked = now.findMarble(marble);
        if (asked == null) {
            return NO_SUCH;
        }
        if (!asked.lies) {
            return NOT_POSSIBLE;
        }
        for (int steps = 0; steps <= EDGE; steps++) {
            if (now.isOutAfter(asked, steps)) {
                return steps;
            }
        }
        return NONE;
    }

    // ---- text

    /** Appends a character to the text and returns the new length of the text. */
    public int type(int code) {
        if (code < FIRST_CODE || code > LAST_CODE) {
            return BAD_VALUE;
        }
        return reader.text.append((char) code) ? reader.text.length : LIMIT;
    }

    /** Makes the text empty and returns the previous length of the text. */
    public int clearText() {
        int before = reader.text.length;
        reader.text.length = 0;
        return before;
    }

    /** Returns the index of the first syntax error of the text, or NONE. */
    public int syntaxError() {
        reader.start();
        reader.readItem();
        for (int items = 1; items < MAX_TEXT && reader.hasMore(); items++) {
            reader.readItem();
        }
        return reader.failed ? reader.place : NONE;
    }

    /** Puts and draws the items of the text up to the first refused one and returns their number. */
    public int readItems() {
        if (syntaxError() != NONE) {
            return BAD_TEXT;
        }
        history.save(now);
        reader.start();
        int done = 0;
        while (done < MAX_TEXT && reader.hasMore()) {
            reader.readItem();
            if (!addItemRead()) {
                break;
            }
            done++;
        }
        reader.text.length = 0;
        return done;
    }

    // ---- undo

    /** Restores the state that was saved last and returns the number of saved states that are left. */
    public int undo() {
        if (history.depth == 0) {
            return NOT_POSSIBLE;
        }
        history.restore(now);
        return history.depth;
    }

    /** Computes a hash of the state. */
    public long digest() {
        long hash = HASH_START;
        for (int what = 0; what < COUNTS; what++) {
            hash = mix(hash, count(what));
        }
        for (int number = 0; number < now.placed; number++) {
            for (int what = 0; what < MARBLE_NUMBERS; what++) {
                hash = mix(hash, marble(number, what));
            }
        }
        for (int number = 0; number < now.drawn; number++) {
            for (int what = 0; what < RING_NUMBERS; what++) {
                hash = mix(hash, ring(number, what));
            }
        }
        for (int player = 0; player < PLAYERS; player++) {
            hash = mix(hash, score(player));
        }
        hash = mix(hash, leader());
        for (int number = 0; number < now.placed; number++) {
            hash = mix(hash, wayOut(number));
        }
        return hash;
    }

    // ---- helpers

    private void tryFlick(int marble, int direction, int strength) {
        trial.copyFrom(now);
        roll.play(trial, marble, direction, strength);
    }

    private boolean addItemRead() {
        if (reader.isRing) {
            return now.refusalOfRing(reader.x, reader.y, reader.radius) == FINE
                && now.addRing(reader.x, reader.y, reader.radius) >= 0;
        }
        return now.refusalOfMarble(reader.x, reader.y, reader.size, reader.owner) == FINE
            && now.addMarble(reader.x, reader.y, reader.size, reader.owner) >= 0;
    }

    private static long mix(long hash, long value) {
        return 31 * hash + value;
    }

    private static boolean isPoint(int x, int y) {
        return x >= 0 && x <= EDGE && y >= 0 && y <= EDGE;
    }

    private static boolean isPlayer(int player) {
        return player >= 0 && player < PLAYERS;
    }

    private static boolean isDirection(int direction) {
        return direction >= 0 && direction < STEP_X.length && direction < STEP_Y.length;
    }

    private static boolean isStrength(int strength) {
        return strength >= 1 && strength <= MAX_STRENGTH;
    }

    private static int stepX(int direction) {
        return isDirection(direction) ? STEP_X[direction] : 0;
    }

    private static int stepY(int direction) {
        return isDirection(direction) ? STEP_Y[direction] : 0;
    }

    /** A marble; one that has not been put yet neither lies nor was won. */
    private static final class Marble {
        final int number;
        int x;
        int y;
        int size;
        int owner;
        int winner;
        boolean lies;
        // The last two serve the flick that is being played and are no part of the state.
        int ringsAhead;
        boolean wasHit;

        Marble(int number) {
            this.number = number;
            this.winner = NOBODY;
        }

        void copyFrom(Marble other) {
            x = other.x;
            y = other.y;
            size = other.size;
            owner = other.owner;
            winner = other.winner;
            lies = other.lies;
        }
    }

    /** A ring; its radius is 0 as long as it has not been drawn. */
    private static final class Ring {
        int x;
        int y;
        int radius;

        void copyFrom(Ring other) {
            x = other.x;
            y = other.y;
            radius = other.radius;
        }

        boolean holds(int pointX, int pointY) {
            int awayX = pointX - x;
            int awayY = pointY - y;
            return radius > 0 && awayX * awayX + awayY * awayY <= radius * radius;
        }

        int pointsInside() {
            int points = 0;
            for (int pointX = 0; pointX <= EDGE; pointX++) {
                for (int pointY = 0; pointY <= EDGE; pointY++) {
                    if (holds(pointX, pointY)) {
                        points++;
                    }
                }
            }
            return points;
        }
    }

    /** The whole state that undo brings back: marbles, rings and the numbers of the game. */
    private static final class Playground {
        private final Marble[] marbles;
        private final Ring[] rings;
        int placed;
        int drawn;
        int onMove;
        int flicks;
        int hits;
        int won;
        int grown;
        int walls;

        Playground() {
            marbles = new Marble[MAX_MARBLES];
            for (int number = 0; number < marbles.length; number++) {
                marbles[number] = new Marble(number);
            }
            rings = new Ring[MAX_RINGS];
            for (int number = 0; number < rings.length; number++) {
                rings[number] = new Ring();
            }
        }

        void copyFrom(Playground other) {
            for (int number = 0; number < marbles.length && number < other.marbles.length; number++) {
                Marble mine = marbles[number];
                Marble theirs = other.marbles[number];
                if (mine != null && theirs != null) {
                    mine.copyFrom(theirs);
                }
            }
            for (int number = 0; number < rings.length && number < other.rings.length; number++) {
                Ring mine = rings[number];
                Ring theirs = other.rings[number];
                if (mine != null && theirs != null) {
                    mine.copyFrom(theirs);
                }
            }
            placed = other.placed;
            drawn = other.drawn;
            onMove = other.onMove;
            flicks = other.flicks;
            hits = other.hits;
            won = other.won;
            grown = other.grown;
            walls = other.walls;
        }

        void wipe() {
            for (Marble marble : marbles) {
                if (marble != null) {
                    marble.lies = false;
                    marble.winner = NOBODY;
                }
            }
            for (Ring ring : rings) {
                if (ring != null) {
                    ring.radius = 0;
                }
            }
            placed = 0;
            drawn = 0;
            onMove = 0;
            flicks = 0;
            hits = 0;
            won = 0;
            grown = 0;
            walls = 0;
        }

        Marble findMarble(int number) {
            return number < 0 || number >= placed || number >= marbles.length ? null : marbles[number];
        }

        Ring findRing(int number) {
            return number < 0 || number >= drawn || number >= rings.length ? null : rings[number];
        }

        int refusalOfMarble(int x, int y, int size, int owner) {
            if (!isPoint(x, y) || !isPlayer(owner)) {
                return NO_SUCH;
            }
            if (size < 1 || size > MAX_SIZE) {
                return BAD_VALUE;
            }
            if (marbleOn(x, y) != null) {
                return NOT_POSSIBLE;
            }
            return placed >= MAX_MARBLES ? LIMIT : FINE;
        }

        int addMarble(int x, int y, int size, int owner) {
            if (placed < 0 || placed >= marbles.length) {
                return LIMIT;
            }
            Marble added = marbles[placed];
            if (added == null) {
                return LIMIT;
            }
            added.x = x;
            added.y = y;
            added.size = size;
            added.owner = owner;
            added.winner = NOBODY;
            added.lies = true;
            placed++;
            return added.number;
        }

        int refusalOfRing(int x, int y, int radius) {
            if (!isPoint(x, y)) {
                return NO_SUCH;
            }
            if (radius < 1 || radius > MAX_RADIUS) {
                return BAD_VALUE;
            }
            return drawn >= MAX_RINGS ? LIMIT : FINE;
        }

        int addRing(int x, int y, int radius) {
            if (drawn < 0 || drawn >= rings.length) {
                return LIMIT;
            }
            Ring added = rings[drawn];
            if (added == null) {
                return LIMIT;
            }
            added.x = x;
            added.y = y;
            added.radius = radius;
            drawn++;
            return drawn - 1;
        }

        void nextPlayer() {
            onMove = onMove < PLAYERS - 1 ? onMove + 1 : 0;
        }

        Marble marbleOn(int x, int y) {
            for (Marble marble : marbles) {
                if (marble != null && marble.lies && marble.x == x && marble.y == y) {
                    return marble;
                }
            }
            return null;
        }

        int ringsAround(int x, int y) {
            int set = 0;
            for (int number = 0; number < rings.length; number++) {
                Ring ring = rings[number];
                if (ring != null && ring.holds(x, y)) {
                    set |= 1 << number;
                }
            }
            return set;
        }

        int marblesIn(Ring ring) {
            int set = 0;
            for (Marble marble : marbles) {
                if (marble != null && marble.lies && ring.holds(marble.x, marble.y)) {
                    set |= 1 << marble.number;
                }
            }
            return set;
        }

        int pointsOf(int player) {
            int points = 0;
            for (Marble marble : marbles) {
                if (marble == null || marble.winner == NOBODY) {
                    continue;
                }
                if (marble.winner == player) {
                    points += marble.size;
                } else if (marble.owner == player) {
                    points -= marble.size;
                }
            }
            return points;
        }

        boolean isOutAfter(Marble marble, int steps) {
            for (int direction = 0; direction < STEP_X.length; direction++) {
                int x = marble.x + steps * stepX(direction);
                int y = marble.y + steps * stepY(direction);
                if (isPoint(x, y) && ringsAround(x, y) == 0) {
                    return true;
                }
            }
            return false;
        }

        void markAhead() {
            for (Marble marble : marbles) {
                if (marble != null) {
                    marble.ringsAhead = marble.lies ? ringsAround(marble.x, marble.y) : 0;
                    marble.wasHit = false;
                }
            }
        }

        boolean isWonBy(Marble marble, int player) {
            return marble.lies && marble.wasHit && marble.owner != player
                && marble.ringsAhead != 0 && ringsAround(marble.x, marble.y) == 0;
        }

        void growRings(int set) {
            for (int number = 0; number < rings.length; number++) {
                Ring ring = rings[number];
                if (ring != null && (set >> number & 1) == 1 && ring.radius < MAX_RADIUS) {
                    ring.radius++;
                    grown++;
                }
            }
        }
    }

    /** One flick on a playground, from its first move until the winnings are taken; kept for the next flick. */
    private static final class Roll {
        int won;
        int wonSizes;
        int hits;
        int last;
        int lastX;
        int lastY;
        private int walls;
        private int strength;
        private int addX;
        private int addY;

        void play(Playground ground, int number, int direction, int firstStrength) {
            won = 0;
            wonSizes = 0;
            hits = 0;
            walls = 0;
            strength = firstStrength;
            addX = stepX(direction);
            addY = stepY(direction);
            Marble flicked = ground.findMarble(number);
            if (flicked == null) {
                return;
            }
            ground.markAhead();
            rollAll(ground, flicked);
            takeWinnings(ground, flicked.owner);
            ground.flicks++;
            ground.hits += hits;
            ground.walls += walls;
            ground.won += won;
            if (won == 0) {
                ground.nextPlayer();
            }
        }

        private void rollAll(Playground ground, Marble flicked) {
            Marble rolling = flicked;
            for (int turn = 0; turn < MAX_HITS; turn++) {
                Marble target = rollToHit(ground, rolling);
                if (target == null) {
                    break;
                }
                hits++;
                target.wasHit = true;
                strength = passedOn(rolling.size, target.size);
                rolling = target;
            }
            last = rolling.number;
            lastX = rolling.x;
            lastY = rolling.y;
        }

        /** Rolls one marble until it rests, and returns the marble that it hit, or null. */
        private Marble rollToHit(Playground ground, Marble rolling) {
            int inside = ground.ringsAround(rolling.x, rolling.y);
            // Each move costs at least 1, so as many moves as the greatest strength always do.
            for (int moves = 0; moves < MAX_STRENGTH && strength >= 1; moves++) {
                turnAtWalls(rolling);
                int nextX = rolling.x + addX;
                int nextY = rolling.y + addY;
                Marble target = ground.marbleOn(nextX, nextY);
                if (target != null) {
                    return target;
                }
                int nextInside = ground.ringsAround(nextX, nextY);
                strength = Math.max(0, strength - 1 - Integer.bitCount(inside ^ nextInside));
                inside = nextInside;
                rolling.x = nextX;
                rolling.y = nextY;
            }
            return null;
        }

        private void turnAtWalls(Marble rolling) {
            if (rolling.x + addX < 0 || rolling.x + addX > EDGE) {
                addX = -addX;
                walls++;
            }
            if (rolling.y + addY < 0 || rolling.y + addY > EDGE) {
                addY = -addY;
                walls++;
            }
        }

        private int passedOn(int size, int hitSize) {
            return hitSize < 1 ? 0 : Math.min(MAX_STRENGTH, strength * size / hitSize);
        }

        private void takeWinnings(Playground ground, int player) {
            int growing = 0;
            for (int number = 0; number < ground.placed; number++) {
                Marble marble = ground.findMarble(number);
                if (marble != null && ground.isWonBy(marble, player)) {
                    marble.lies = false;
                    marble.winner = player;
                    won++;
                    wonSizes += marble.size;
                    growing |= marble.ringsAhead;
                }
            }
            // Rings grow last: by the old radii it is decided which marbles are in no ring.
            ground.growRings(growing);
        }
    }

    /** The states that were saved last, in rows that are made once and used in turn. */
    private static final class History {
        private final Playground[] saved;
        private int oldest;
        int depth;

        History() {
            saved = new Playground[MAX_SAVED];
            for (int slot = 0; slot < saved.length; slot++) {
                saved[slot] = new Playground();
            }
        }

        void save(Playground ground) {
            if (depth >= MAX_SAVED) {
                oldest = (oldest + 1) % MAX_SAVED;
                depth = MAX_SAVED - 1;
            }
            Playground slot = slotOf(depth);
            if (slot != null) {
                slot.copyFrom(ground);
                depth++;
            }
        }

        void restore(Playground ground) {
            Playground slot = slotOf(depth - 1);
            if (slot != null) {
                ground.copyFrom(slot);
                depth--;
            }
        }

        private Playground slotOf(int order) {
            int slot = (oldest + order) % MAX_SAVED;
            return slot < 0 || slot >= saved.length ? null : saved[slot];
        }
    }

    /** The text that is typed. */
    private static final class Text {
        private final char[] signs;
        int length;

        Text() {
            signs = new char[MAX_TEXT];
        }

        boolean append(char sign) {
            if (length < 0 || length >= signs.length) {
                return false;
            }
            signs[length] = sign;
            length++;
            return true;
        }

        int signAt(int place) {
            return place < 0 || place >= length || place >= signs.length ? NO_SIGN : signs[place];
        }
    }

    /** Reads its text item by item; behind the first fault it stays on the place of the fault. */
    private static final class ItemReader {
        final Text text;
        int place;
        boolean failed;
        boolean isRing;
        int x;
        int y;
        int radius;
        int size;
        int owner;

        ItemReader() {
            text = new Text();
        }

        void start() {
            place = 0;
            failed = false;
        }

        boolean hasMore() {
            return !failed && place < text.length;
        }

        void readItem() {
            if (place > 0) {
                take(';');
            }
            isRing = text.signAt(place) == 'r';
            take(isRing ? 'r' : 'm');
            x = takeNumber(0, EDGE);
            take(',');
            y = takeNumber(0, EDGE);
            if (isRing) {
                take(':');
                radius = takeNumber(1, MAX_RADIUS);
            } else {
                take('s');
                size = takeNumber(1, MAX_SIZE);
                take('p');
                owner = takeNumber(0, PLAYERS - 1);
            }
        }

        private void take(char sign) {
            if (failed) {
                return;
            }
            if (text.signAt(place) == sign) {
                place++;
            } else {
                failed = true;
            }
        }

        /**
         * Takes a number without leading zeros. A digit by which the number would leave its range is not taken,
         * so that the fault is found on it. (The lowest number has one digit, so each beginning stays in range.)
         */
        private int takeNumber(int low, int high) {
            int value = digitAt(place);
            if (failed || value < low || value > high) {
                failed = true;
                return low;
            }
            place++;
            for (int more = 0; more < MAX_TEXT && value > 0; more++) {
                int digit = digitAt(place);
                if (digit < 0 || value * 10 + digit > high) {
                    break;
                }
                value = value * 10 + digit;
                place++;
            }
            return value;
        }

        private int digitAt(int where) {
            int sign = text.signAt(where);
            return sign < '0' || sign > '9' ? NO_SIGN : sign - '0';
        }
    }
}
