/** A pool of connections that are lent to owners in turns; ../shared/DOC.md says what each call does. */
public final class PoolTurns {
    public static final int NONE = -1;

    private static final int PLACES = 8;
    private static final int OWNERS = 8;
    private static final int LAST_TIME = 9999;
    private static final int MOST_PASSED = 99;
    private static final int MOST_FORESEEN = 200;

    // what a place is
    private static final int EMPTY = 0;
    private static final int IDLE = 1;
    private static final int LENT = 2;

    // the settings by their numbers
    private static final int MOST_CONNECTIONS = 0;
    private static final int MOST_OF_OWNER = 1;
    private static final int KEPT = 2;
    private static final int EARLIEST_FIRST = 3;
    private static final int CHECK_WHEN_LENT = 4;
    private static final int LEASE = 5;
    private static final int UNITS_BETWEEN_CHECKS = 6;
    private static final int MOST_IDLE = 7;
    private static final int MOST_WAIT = 8;
    private static final int SETTINGS = 9;
    private static final int[] FIRST_VALUES = {4, 2, 1, 0, 1, 10, 5, 20, 15};
    private static final int[] LEAST_VALUES = {1, 1, 0, 0, 0, 1, 0, 1, 1};
    private static final int[] GREATEST_VALUES = {8, 8, 8, 1, 1, 99, 99, 99, 99};
    // nobody waits longer than the greatest value of MOST_WAIT
    private static final int LONGEST_WAIT = 99;

    // the totals, in the order of count(6) to count(12)
    private static final int OPENED = 0;
    private static final int CLOSED = 1;
    private static final int CLOSED_SICK = 2;
    private static final int CLOSED_IDLE = 3;
    private static final int CLOSED_VANISHED = 4;
    private static final int CHECKS = 5;
    private static final int LENDINGS = 6;
    private static final int TOTALS = 7;
    private static final int FIRST_TOTAL = 6;
    private static final int SAVED_STATES = 13;

    // how many numbers place, owner, count, ifAsked and ifPassed tell
    private static final int PLACE_KINDS = 6;
    private static final int OWNER_KINDS = 7;
    private static final int COUNT_KINDS = 14;
    private static final int ASKED_KINDS = 3;
    private static final int PASSED_KINDS = 4;

    private static final long DIGEST_START = 2753;
    private static final int DIGEST_UNITS = 12;

    private final Pool pool = new Pool();
    // what would be is tried on this one; the rows take what the tries tell
    private final Pool trial = new Pool();
    private final int[] asked = new int[ASKED_KINDS];
    private final int[] passed = new int[PASSED_KINDS];
    private final int[] waits = new int[OWNERS];
    private final History history = new History();
    private final CallText text = new CallText();

    public PoolTurns() {
    }

    // ---- owners

    public int ask(int owner) throws IndexOutOfBoundsException, IllegalStateException {
        requireOwner(owner);
        if (!pool.canRequest(owner)) {
            throw new IllegalStateException("the owner has vanished, or waits already");
        }
        history.save(pool);
        return pool.request(owner);
    }

    public int give(int place) throws IndexOutOfBoundsException, IllegalStateException {
        requirePlace(place);
        if (!pool.canTakeBack(place)) {
            throw new IllegalStateException("the connection is not lent, or its owner has vanished");
        }
        history.save(pool);
        pool.takeBack(place);
        return pool.borrower(place);
    }

    public int giveUp(int owner) throws IndexOutOfBoundsException, IllegalStateException {
        requireOwner(owner);
        if (pool.turnOf(owner) == NONE) {
            throw new IllegalStateException("the owner does not wait");
        }
        history.save(pool);
        int waited = pool.waitOf(owner);
        pool.stopWaiting(owner);
        return waited;
    }

    public int appear(int owner, boolean isThere) throws IndexOutOfBoundsException, IllegalStateException {
        requireOwner(owner);
        if (pool.isThere(owner) == isThere) {
            throw new IllegalStateException("the owner is so already");
        }
        history.save(pool);
        pool.turnUp(owner, isThere);
        return pool.lentCount(owner);
    }

    // ---- connections

    public int sicken(int place) throws IndexOutOfBoundsException, IllegalStateException {
        requirePlace(place);
        if (pool.isEmpty(place)) {
            throw new IllegalStateException("the place is empty");
        }
        history.save(pool);
        return pool.makeSick(place) ? 1 : 0;
    }

    public int check() {
        history.save(pool);
        int closed = pool.checkIdle();
        pool.serveWaiters(NONE);
        return closed;
    }

    public int drain() {
        history.save(pool);
        int closed = pool.closeIdle();
        pool.serveWaiters(NONE);
        return closed;
    }

    public int set(int setting, int value) throws IndexOutOfBoundsException, IllegalArgumentException {
        requireSetting(setting);
        if (value < LEAST_VALUES[setting] || value > GREATEST_VALUES[setting]) {
            throw new IllegalArgumentException("the value is out of range");
        }
        history.save(pool);
        return pool.change(setting, value);
    }

    public int pass(int units) throws IllegalArgumentException, IllegalStateException {
        if (units < 1 || units > MOST_PASSED) {
            throw new IllegalArgumentException("units are 1 to 99");
        }
        if (!pool.canPassUnits(units)) {
            throw new IllegalStateException("the time would be above 9999");
        }
        history.save(pool);
        return pool.passUnits(units);
    }

    // ---- texts

    public int append(int code) throws IllegalArgumentException, IllegalStateException {
        if (code < CallText.LEAST_CODE || code > CallText.GREATEST_CODE) {
            throw new IllegalArgumentException("a code is 33 to 126");
        }
        if (text.isFull()) {
            throw new IllegalStateException("the buffer has 60 characters");
        }
        text.put(code);
        return text.length;
    }

    public int clearBuffer() {
        int length = text.length;
        text.length = 0;
        return length;
    }

    public int firstError() {
        return text.firstMisfit();
    }

    public int run() throws IllegalArgumentException {
        if (!text.isComplete()) {
            throw new IllegalArgumentException("the buffer is not complete calls as a text");
        }
        history.save(pool);
        int made = 0;
        for (int part = 0; part < text.parts(); part++) {
            if (!makeCall(text.kindOf(part), text.numberOf(part))) {
                break;
            }
            made++;
        }
        text.length = 0;
        return made;
    }

    public int undo() throws IllegalStateException {
        if (history.size == 0) {
            throw new IllegalStateException("there is no saved state");
        }
        history.restore(pool);
        return history.size;
    }

    // ---- looks; nothing is changed

    public int place(int place, int what) throws IndexOutOfBoundsException, IllegalArgumentException {
        requirePlace(place);
        requireKind(what, PLACE_KINDS);
        return pool.placeProperty(place, what);
    }

    public int owner(int owner, int what) throws IndexOutOfBoundsException, IllegalArgumentException {
        requireOwner(owner);
        requireKind(what, OWNER_KINDS);
        return pool.ownerProperty(owner, what);
    }

    public int count(int what) throws IllegalArgumentException {
        requireKind(what, COUNT_KINDS);
        return what == SAVED_STATES ? history.size : pool.number(what);
    }

    public int setting(int setting) throws IndexOutOfBoundsException {
        requireSetting(setting);
        return pool.settings[setting];
    }

    // ---- what would be; nothing is changed

    public int ifAsked(int owner, int what) throws IndexOutOfBoundsException, IllegalArgumentException {
        requireOwner(owner);
        requireKind(what, ASKED_KINDS);
        tryAsking(owner);
        return asked[what];
    }

    public int ifPassed(int units, int what) throws IllegalArgumentException {
        if (units < 0 || units > MOST_FORESEEN) {
            throw new IllegalArgumentException("units are 0 to 200");
        }
        requireKind(what, PASSED_KINDS);
        tryPassing(units);
        return passed[what];
    }

    public int waitsFor(int owner) throws IndexOutOfBoundsException {
        requireOwner(owner);
        tryWaiting();
        return waits[owner];
    }

    public int blocker() {
        if (pool.waiting == 0) {
            return NONE;
        }
        int most = 0;
        int blocking = NONE;
        for (int owner = 0; owner < OWNERS; owner++) {
            int lent = pool.lentCount(owner);
            if (lent > most) {
                most = lent;
                blocking = owner;
            }
        }
        return blocking;
    }

    public double fairness() {
        int least = 0;
        int greatest = 0;
        for (int owner = 0; owner < OWNERS; owner++) {
            int got = pool.got[owner];
            if (got > 0 && (least == 0 || got < least)) {
                least = got;
            }
            greatest = Math.max(greatest, got);
        }
        return greatest == 0 ? 1.0 : (double) least / greatest;
    }

    public long digest() {
        long hash = DIGEST_START;
        for (int what = 0; what < COUNT_KINDS; what++) {
            hash = 31 * hash + count(what);
        }
        hash = mixRow(hash, pool.settings);
        for (int place = 0; place < PLACES; place++) {
            for (int what = 0; what < PLACE_KINDS; what++) {
                hash = 31 * hash + pool.placeProperty(place, what);
            }
        }
        tryWaiting();
        for (int owner = 0; owner < OWNERS; owner++) {
            for (int what = 0; what < OWNER_KINDS; what++) {
                hash = 31 * hash + pool.ownerProperty(owner, what);
            }
            tryAsking(owner);
            hash = mixRow(hash, asked);
            hash = 31 * hash + waits[owner];
        }
        tryPassing(DIGEST_UNITS);
        hash = mixRow(hash, passed);
        hash = 31 * hash + blocker();
        hash = 31 * hash + bitsOfShare(fairness());
        hash = 31 * hash + text.length;
        for (int at = 0; at < text.length; at++) {
            hash = 31 * hash + text.codes[at];
        }
        return hash;
    }

    private static long mixRow(long start, int[] row) {
        long hash = start;
        for (int value : row) {
            hash = 31 * hash + value;
        }
        return hash;
    }

    /** The bits of a double above 0 and at most 1, made by hand, since the language leaves out the class for that. */
    private static long bitsOfShare(double share) {
        double scaled = share;
        long exponent = 1023;
        for (int step = 0; step < 1022 && scaled < 1.0; step++) {
            scaled = scaled * 2.0;
            exponent--;
        }
        long fraction = (long) ((scaled - 1.0) * 4503599627370496.0);
        return (exponent << 52) + fraction;
    }

    private static void requireOwner(int owner) {
        if (owner < 0 || owner >= OWNERS) {
            throw new IndexOutOfBoundsException("there is no such owner");
        }
    }

    private static void requirePlace(int place) {
        if (place < 0 || place >= PLACES) {
            throw new IndexOutOfBoundsException("there is no such place");
        }
    }

    private static void requireSetting(int setting) {
        if (setting < 0 || setting >= SETTINGS) {
            throw new IndexOutOfBoundsException("there is no such setting");
        }
    }

    private static void requireKind(int what, int kinds) {
        if (what < 0 || what >= kinds) {
            throw new IllegalArgumentException("what is out of range");
        }
    }

    /** Makes one call of a text; false, and nothing changed, if it would throw an exception. */
    private boolean makeCall(int kind, int number) {
        switch (kind) {
            case 'a':
                if (!pool.canRequest(number)) {
                    return false;
                }
                pool.request(number);
                return true;
            case 'g':
                if (!pool.canTakeBack(number)) {
                    return false;
                }
                pool.takeBack(number);
                return true;
            case 's':
                if (pool.isEmpty(number)) {
                    return false;
                }
                pool.makeSick(number);
                return true;
            case 'v':
            case 'c':
                if (pool.isThere(number) == (kind == 'c')) {
                    return false;
                }
                pool.turnUp(number, kind == 'c');
                return true;
            default:
                if (!pool.canPassUnits(number)) {
                    return false;
                }
                pool.passUnits(number);
                return true;
        }
    }

    private void tryAsking(int owner) {
        asked[0] = NONE;
        asked[1] = 0;
        asked[2] = 0;
        if (!pool.canRequest(owner)) {
            return;
        }
        trial.copyFrom(pool);
        int place = trial.request(owner);
        asked[0] = place;
        asked[1] = place != NONE && trial.openedAt[place] > pool.openedAt[place] ? 1 : 0;
        asked[2] = trial.totals[CLOSED] - pool.totals[CLOSED];
    }

    private void tryPassing(int units) {
        trial.copyFrom(pool);
        passed[0] = trial.passUnits(units);
        passed[1] = trial.totals[CLOSED] - pool.totals[CLOSED];
        passed[2] = trial.connections();
        passed[3] = trial.waiting;
    }

    /** One try tells of all waiters: while only time passes, nobody joins them, so each gets one connection at most. */
    private void tryWaiting() {
        for (int owner = 0; owner < OWNERS; owner++) {
            waits[owner] = NONE;
        }
        trial.copyFrom(pool);
        for (int unit = 1; unit <= LONGEST_WAIT && trial.waiting > 0; unit++) {
            trial.passUnits(1);
            for (int owner = 0; owner < OWNERS; owner++) {
                if (waits[owner] == NONE && trial.got[owner] > pool.got[owner]) {
                    waits[owner] = unit;
                }
            }
        }
    }

    /** The state that undo restores, and the steps that change it; its callers look at what a call requires first. */
    private static final class Pool {
        int time;
        final int[] settings = new int[SETTINGS];

        // by places; lentTo tells something only where LENT stands
        final int[] standing = new int[PLACES];
        final int[] lentTo = new int[PLACES];
        final boolean[] sick = new boolean[PLACES];
        final int[] used = new int[PLACES];
        final int[] since = new int[PLACES];
        final int[] openedAt = new int[PLACES];

        // by owners; waitsSince tells something only of those who wait
        final boolean[] vanished = new boolean[OWNERS];
        final int[] got = new int[OWNERS];
        final int[] gaveUp = new int[OWNERS];
        final int[] waitedInAll = new int[OWNERS];
        final int[] waitsSince = new int[OWNERS];

        // the waiters in their order are the first ones of this row
        final int[] waiters = new int[OWNERS];
        int waiting;

        final int[] totals = new int[TOTALS];

        Pool() {
            System.arraycopy(FIRST_VALUES, 0, settings, 0, SETTINGS);
        }

        void copyFrom(Pool other) {
            time = other.time;
            System.arraycopy(other.settings, 0, settings, 0, SETTINGS);
            System.arraycopy(other.standing, 0, standing, 0, PLACES);
            System.arraycopy(other.lentTo, 0, lentTo, 0, PLACES);
            System.arraycopy(other.sick, 0, sick, 0, PLACES);
            System.arraycopy(other.used, 0, used, 0, PLACES);
            System.arraycopy(other.since, 0, since, 0, PLACES);
            System.arraycopy(other.openedAt, 0, openedAt, 0, PLACES);
            System.arraycopy(other.vanished, 0, vanished, 0, OWNERS);
            System.arraycopy(other.got, 0, got, 0, OWNERS);
            System.arraycopy(other.gaveUp, 0, gaveUp, 0, OWNERS);
            System.arraycopy(other.waitedInAll, 0, waitedInAll, 0, OWNERS);
            System.arraycopy(other.waitsSince, 0, waitsSince, 0, OWNERS);
            System.arraycopy(other.waiters, 0, waiters, 0, OWNERS);
            waiting = other.waiting;
            System.arraycopy(other.totals, 0, totals, 0, TOTALS);
        }

        // -- what is so

        boolean isEmpty(int place) {
            return standing[place] == EMPTY;
        }

        int borrower(int place) {
            return standing[place] == LENT ? lentTo[place] : NONE;
        }

        int standingSo(int wanted) {
            int found = 0;
            for (int place = 0; place < PLACES; place++) {
                if (standing[place] == wanted) {
                    found++;
                }
            }
            return found;
        }

        int connections() {
            return PLACES - standingSo(EMPTY);
        }

        int sickCount() {
            int found = 0;
            for (int place = 0; place < PLACES; place++) {
                if (sick[place]) {
                    found++;
                }
            }
            return found;
        }

        int lentCount(int owner) {
            int found = 0;
            for (int place = 0; place < PLACES; place++) {
                if (standing[place] == LENT && lentTo[place] == owner) {
                    found++;
                }
            }
            return found;
        }

        boolean isThere(int owner) {
            return !vanished[owner];
        }

        boolean mayHaveOneMore(int owner) {
            return lentCount(owner) < settings[MOST_OF_OWNER];
        }

        int turnOf(int owner) {
            for (int turn = 0; turn < waiting; turn++) {
                if (waiters[turn] == owner) {
                    return turn;
                }
            }
            return NONE;
        }

        int waitOf(int owner) {
            return turnOf(owner) == NONE ? 0 : time - waitsSince[owner];
        }

        int placeProperty(int place, int what) {
            switch (what) {
                case 0:
                    return standing[place];
                case 1:
                    return borrower(place);
                case 2:
                    return sick[place] ? 1 : 0;
                case 3:
                    return used[place];
                case 4:
                    return isEmpty(place) ? 0 : time - since[place];
                default:
                    return openedAt[place];
            }
        }

        int ownerProperty(int owner, int what) {
            switch (what) {
                case 0:
                    return isThere(owner) ? 1 : 0;
                case 1:
                    return lentCount(owner);
                case 2:
                    return turnOf(owner);
                case 3:
                    return waitOf(owner);
                case 4:
                    return got[owner];
                case 5:
                    return gaveUp[owner];
                default:
                    return waitedInAll[owner];
            }
        }

        int number(int what) {
            switch (what) {
                case 0:
                    return time;
                case 1:
                    return connections();
                case 2:
                    return standingSo(IDLE);
                case 3:
                    return standingSo(LENT);
                case 4:
                    return sickCount();
                case 5:
                    return waiting;
                default:
                    int total = what - FIRST_TOTAL;
                    return total >= 0 && total < TOTALS ? totals[total] : 0;
            }
        }

        // -- calls; behind each that could let a waiter get one, the waiters are served

        boolean canRequest(int owner) {
            return isThere(owner) && turnOf(owner) == NONE;
        }

        /**
         * Returns the place that the owner gets, NONE if it waits. Each owner is put behind the waiters first:
         * where nobody else waits, serving them is just the looking for a connection of this one.
         */
        int request(int owner) {
            if (waiting < OWNERS) {
                waiters[waiting] = owner;
                waiting++;
                waitsSince[owner] = time;
            }
            return serveWaiters(owner);
        }

        boolean canTakeBack(int place) {
            return standing[place] == LENT && isThere(lentTo[place]);
        }

        void takeBack(int place) {
            standing[place] = IDLE;
            since[place] = time;
            serveWaiters(NONE);
        }

        void stopWaiting(int owner) {
            leave(turnOf(owner));
            gaveUp[owner]++;
            serveWaiters(NONE);
        }

        /** Who vanishes while it waits has not given up: that is told of those alone who do so or wait too long. */
        void turnUp(int owner, boolean isThere) {
            vanished[owner] = !isThere;
            leave(turnOf(owner));
            serveWaiters(NONE);
        }

        /** Tells whether it was sound. */
        boolean makeSick(int place) {
            boolean wasSound = !sick[place];
            sick[place] = true;
            return wasSound;
        }

        /** Returns the previous value. */
        int change(int setting, int value) {
            int previous = settings[setting];
            settings[setting] = value;
            serveWaiters(NONE);
            return previous;
        }

        boolean canPassUnits(int units) {
            return units <= LAST_TIME - time;
        }

        /** Returns how many waiters give up. */
        int passUnits(int units) {
            int givingUp = 0;
            for (int unit = 0; unit < units; unit++) {
                time++;
                closeLeasesOfVanished();
                int between = settings[UNITS_BETWEEN_CHECKS];
                if (between > 0 && time % between == 0) {
                    checkIdle();
                }
                closeIdleTooLong();
                givingUp += dropTiredWaiters();
                serveWaiters(NONE);
            }
            return givingUp;
        }

        // -- steps

        /** Returns how many are closed. */
        int checkIdle() {
            int closed = 0;
            for (int place = 0; place < PLACES; place++) {
                if (standing[place] == IDLE && closeIfSick(place)) {
                    closed++;
                }
            }
            return closed;
        }

        /** Returns how many are closed. */
        int closeIdle() {
            int closed = 0;
            for (int place = 0; place < PLACES; place++) {
                if (standing[place] == IDLE) {
                    close(place);
                    closed++;
                }
            }
            return closed;
        }

        private void closeLeasesOfVanished() {
            for (int place = 0; place < PLACES; place++) {
                if (standing[place] == LENT && vanished[lentTo[place]] && time - since[place] >= settings[LEASE]) {
                    close(place);
                    totals[CLOSED_VANISHED]++;
                }
            }
        }

        private void closeIdleTooLong() {
            int left = connections();
            for (int place = 0; place < PLACES && left > settings[KEPT]; place++) {
                if (standing[place] == IDLE && time - since[place] >= settings[MOST_IDLE]) {
                    close(place);
                    totals[CLOSED_IDLE]++;
                    left--;
                }
            }
        }

        /** Returns how many give up. */
        private int dropTiredWaiters() {
            int dropped = 0;
            // from behind, since those behind a leaving one move up
            for (int turn = waiting - 1; turn >= 0; turn--) {
                int owner = waiters[turn];
                if (time - waitsSince[owner] >= settings[MOST_WAIT]) {
                    leave(turn);
                    gaveUp[owner]++;
                    dropped++;
                }
            }
            return dropped;
        }

        private void leave(int turn) {
            if (turn < 0 || turn >= waiting) {
                return;
            }
            for (int at = turn; at + 1 < waiting; at++) {
                waiters[at] = waiters[at + 1];
            }
            waiting--;
        }

        /** Returns the place that the asker gets by this, NONE if it gets none. */
        int serveWaiters(int asker) {
            int gotten = NONE;
            // each round takes a waiter away, so there are no more rounds than owners
            for (int round = 0; round < OWNERS; round++) {
                int turn = firstTurnThatMayHaveOne();
                int place = turn == NONE ? NONE : findConnection();
                if (place == NONE) {
                    break;
                }
                int owner = waiters[turn];
                waitedInAll[owner] += time - waitsSince[owner];
                leave(turn);
                lend(place, owner);
                if (owner == asker) {
                    gotten = place;
                }
            }
            return gotten;
        }

        private int firstTurnThatMayHaveOne() {
            for (int turn = 0; turn < waiting; turn++) {
                if (mayHaveOneMore(waiters[turn])) {
                    return turn;
                }
            }
            return NONE;
        }

        /** Returns the place of a connection that can be lent, opened if need be; NONE if there is none. */
        private int findConnection() {
            for (int tried = 0; tried < PLACES; tried++) {
                int place = nextIdle();
                if (place == NONE) {
                    break;
                }
                if (settings[CHECK_WHEN_LENT] == 0 || !closeIfSick(place)) {
                    return place;
                }
            }
            return connections() < settings[MOST_CONNECTIONS] ? open() : NONE;
        }

        private int nextIdle() {
            int best = NONE;
            for (int place = 0; place < PLACES; place++) {
                if (standing[place] != IDLE) {
                    continue;
                }
                if (best == NONE || isAhead(since[place], since[best])) {
                    best = place;
                }
            }
            return best;
        }

        private boolean isAhead(int one, int other) {
            return settings[EARLIEST_FIRST] == 1 ? one < other : one > other;
        }

        /** Checks an idle connection; tells whether it is closed by that. */
        private boolean closeIfSick(int place) {
            totals[CHECKS]++;
            if (!sick[place]) {
                return false;
            }
            close(place);
            totals[CLOSED_SICK]++;
            return true;
        }

        /** Returns the place of the new connection, NONE if no place is empty. */
        private int open() {
            for (int place = 0; place < PLACES; place++) {
                if (isEmpty(place)) {
                    standing[place] = IDLE;
                    since[place] = time;
                    openedAt[place]++;
                    totals[OPENED]++;
                    return place;
                }
            }
            return NONE;
        }

        private void lend(int place, int owner) {
            standing[place] = LENT;
            lentTo[place] = owner;
            since[place] = time;
            used[place]++;
            got[owner]++;
            totals[LENDINGS]++;
        }

        /** What is counted of a connection ends with it; openedAt is the place's own. */
        private void close(int place) {
            standing[place] = EMPTY;
            sick[place] = false;
            used[place] = 0;
            totals[CLOSED]++;
        }
    }

    /** The saved states, at most six, the oldest one overwritten first. */
    private static final class History {
        private static final int MOST = 6;

        private final Pool[] saved = new Pool[MOST];
        private int newest = MOST - 1;
        int size;

        History() {
            for (int at = 0; at < MOST; at++) {
                saved[at] = new Pool();
            }
        }

        void save(Pool pool) {
            newest = (newest + 1) % MOST;
            saved[newest].copyFrom(pool);
            size = Math.min(size + 1, MOST);
        }

        /** Puts the latest saved state into the pool and drops it; there must be one. */
        void restore(Pool pool) {
            pool.copyFrom(saved[newest]);
            newest = (newest + MOST - 1) % MOST;
            size--;
        }
    }

    /** The buffer; every part of calls as a text is two characters, a kind and a digit. */
    private static final class CallText {
        static final int LEAST_CODE = 33;
        static final int GREATEST_CODE = 126;
        private static final int MOST = 60;

        final int[] codes = new int[MOST];
        int length;

        boolean isFull() {
            return length >= MOST;
        }

        void put(int code) {
            if (!isFull()) {
                codes[length] = code;
                length++;
            }
        }

        int parts() {
            return length / 2;
        }

        int kindOf(int part) {
            return codes[2 * part];
        }

        int numberOf(int part) {
            return codes[2 * part + 1] - '0';
        }

        boolean isComplete() {
            return length > 0 && length % 2 == 0 && firstMisfit() == length;
        }

        /** The index of the first syntax error, the length if there is none. */
        int firstMisfit() {
            for (int at = 0; at < length; at++) {
                boolean fits = at % 2 == 0 ? isKind(codes[at]) : isNumberOf(codes[at - 1], codes[at]);
                if (!fits) {
                    return at;
                }
            }
            return length;
        }

        private static boolean isKind(int code) {
            return code == 'a' || code == 'g' || code == 's' || code == 'v' || code == 'c' || code == '+';
        }

        private static boolean isNumberOf(int kind, int code) {
            return kind == '+' ? code >= '1' && code <= '9' : code >= '0' && code <= '7';
        }
    }
}
