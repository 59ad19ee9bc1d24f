import java.util.ArrayDeque;
import java.util.ArrayList;
import java.util.Comparator;
import java.util.Deque;
import java.util.List;
import java.util.regex.Pattern;

/** A second pool, which follows the words of the document one by one and copies itself for each what-if. */
final class PlainPool {
    private static final int[] LEAST = {1, 1, 0, 0, 0, 1, 0, 1, 1};
    private static final int[] GREATEST = {8, 8, 8, 1, 1, 99, 99, 99, 99};

    private static final class Connection {
        final int place;
        int owner = -1;
        boolean sick;
        int used;
        int since;

        Connection(int place, int since) {
            this.place = place;
            this.since = since;
        }

        Connection(Connection other) {
            this(other.place, other.since);
            owner = other.owner;
            sick = other.sick;
            used = other.used;
        }
    }

    private static final class Waiter {
        final int owner;
        final int since;

        Waiter(int owner, int since) {
            this.owner = owner;
            this.since = since;
        }
    }

    private int time;
    private int[] settings = {4, 2, 1, 0, 1, 10, 5, 20, 15};
    private Connection[] connections = new Connection[8];
    private int[] openedAt = new int[8];
    private boolean[] there = {true, true, true, true, true, true, true, true};
    private int[] got = new int[8];
    private int[] gaveUp = new int[8];
    private int[] waited = new int[8];
    private List<Waiter> waiters = new ArrayList<>();
    private int opened;
    private int closed;
    private int closedSick;
    private int closedIdle;
    private int closedVanished;
    private int checks;
    private int lendings;
    private final Deque<PlainPool> saved = new ArrayDeque<>();
    private String buffer = "";

    private PlainPool copy() {
        PlainPool copy = new PlainPool();
        copy.restore(this);
        return copy;
    }

    private void restore(PlainPool other) {
        time = other.time;
        settings = other.settings.clone();
        connections = new Connection[8];
        for (int place = 0; place < 8; place++) {
            connections[place] = other.connections[place] == null ? null : new Connection(other.connections[place]);
        }
        openedAt = other.openedAt.clone();
        there = other.there.clone();
        got = other.got.clone();
        gaveUp = other.gaveUp.clone();
        waited = other.waited.clone();
        waiters = new ArrayList<>(other.waiters);
        opened = other.opened;
        closed = other.closed;
        closedSick = other.closedSick;
        closedIdle = other.closedIdle;
        closedVanished = other.closedVanished;
        checks = other.checks;
        lendings = other.lendings;
    }

    private void save() {
        saved.addLast(copy());
        if (saved.size() > 6) {
            saved.removeFirst();
        }
    }

    private static void index(boolean fine) {
        if (!fine) {
            throw new IndexOutOfBoundsException();
        }
    }

    private static void argument(boolean fine) {
        if (!fine) {
            throw new IllegalArgumentException();
        }
    }

    private static void state(boolean fine) {
        if (!fine) {
            throw new IllegalStateException();
        }
    }

    private static boolean isEight(int number) {
        return number >= 0 && number <= 7;
    }

    private List<Connection> all() {
        List<Connection> all = new ArrayList<>();
        for (Connection one : connections) {
            if (one != null) {
                all.add(one);
            }
        }
        return all;
    }

    private List<Connection> idle() {
        List<Connection> idle = all();
        idle.removeIf(one -> one.owner != -1);
        return idle;
    }

    private int lentTo(int owner) {
        return (int) all().stream().filter(one -> one.owner == owner).count();
    }

    private Waiter waiter(int owner) {
        return waiters.stream().filter(one -> one.owner == owner).findFirst().orElse(null);
    }

    private boolean mayHaveMore(int owner) {
        return lentTo(owner) < settings[1];
    }

    private void close(Connection one) {
        connections[one.place] = null;
        closed++;
    }

    private boolean closesAsSick(Connection one) {
        checks++;
        if (one.sick) {
            close(one);
            closedSick++;
        }
        return one.sick;
    }

    private Connection look() {
        List<Connection> idle = idle();
        Comparator<Connection> order = Comparator.comparingInt(one -> settings[3] == 1 ? one.since : -one.since);
        idle.sort(order.thenComparingInt(one -> one.place));
        for (Connection one : idle) {
            if (settings[4] == 0 || !closesAsSick(one)) {
                return one;
            }
        }
        if (all().size() >= settings[0]) {
            return null;
        }
        int place = 0;
        while (connections[place] != null) {
            place++;
        }
        connections[place] = new Connection(place, time);
        openedAt[place]++;
        opened++;
        return connections[place];
    }

    private void lend(Connection one, int owner) {
        one.owner = owner;
        one.since = time;
        one.used++;
        got[owner]++;
        lendings++;
    }

    private void serve() {
        boolean goesOn = true;
        while (goesOn) {
            goesOn = false;
            for (Waiter waiter : waiters) {
                Connection one = mayHaveMore(waiter.owner) ? look() : null;
                if (one != null) {
                    lend(one, waiter.owner);
                    waited[waiter.owner] += time - waiter.since;
                    waiters.remove(waiter);
                    goesOn = true;
                    break;
                }
            }
        }
    }

    int ask(int owner) {
        index(isEight(owner));
        state(there[owner] && waiter(owner) == null);
        save();
        return askNow(owner);
    }

    private int askNow(int owner) {
        state(there[owner] && waiter(owner) == null);
        Connection one = waiters.isEmpty() && mayHaveMore(owner) ? look() : null;
        if (one != null) {
            lend(one, owner);
            serve();
            return one.place;
        }
        List<Connection> before = all();
        before.removeIf(each -> each.owner != owner);
        waiters.add(new Waiter(owner, time));
        serve();
        for (Connection each : all()) {
            if (each.owner == owner && !before.contains(each)) {
                return each.place;
            }
        }
        return -1;
    }

    private boolean canGive(int place) {
        return connections[place] != null && connections[place].owner != -1 && there[connections[place].owner];
    }

    int give(int place) {
        index(isEight(place));
        state(canGive(place));
        save();
        return giveNow(place);
    }

    private int giveNow(int place) {
        state(canGive(place));
        connections[place].owner = -1;
        connections[place].since = time;
        serve();
        return connections[place] == null ? -1 : connections[place].owner;
    }

    int giveUp(int owner) {
        index(isEight(owner));
        Waiter waiter = waiter(owner);
        state(waiter != null);
        save();
        waiters.remove(waiter);
        gaveUp[owner]++;
        serve();
        return time - waiter.since;
    }

    int appear(int owner, boolean isThere) {
        index(isEight(owner));
        state(there[owner] != isThere);
        save();
        return appearNow(owner, isThere);
    }

    private int appearNow(int owner, boolean isThere) {
        state(there[owner] != isThere);
        there[owner] = isThere;
        waiters.removeIf(one -> one.owner == owner);
        serve();
        return lentTo(owner);
    }

    int sicken(int place) {
        index(isEight(place));
        state(connections[place] != null);
        save();
        return sickenNow(place);
    }

    private int sickenNow(int place) {
        state(connections[place] != null);
        int sound = connections[place].sick ? 0 : 1;
        connections[place].sick = true;
        serve();
        return sound;
    }

    int check() {
        save();
        int before = closed;
        idle().forEach(this::closesAsSick);
        int now = closed - before;
        serve();
        return now;
    }

    int drain() {
        save();
        List<Connection> idle = idle();
        idle.forEach(this::close);
        serve();
        return idle.size();
    }

    int set(int setting, int value) {
        index(setting >= 0 && setting <= 8);
        argument(value >= LEAST[setting] && value <= GREATEST[setting]);
        save();
        int previous = settings[setting];
        settings[setting] = value;
        serve();
        return previous;
    }

    int pass(int units) {
        argument(units >= 1 && units <= 99);
        state(time + units <= 9999);
        save();
        return passNow(units);
    }

    private int passNow(int units) {
        int givingUp = 0;
        for (int unit = 0; unit < units; unit++) {
            givingUp += passOne();
        }
        return givingUp;
    }

    private int passOne() {
        time++;
        for (Connection one : all()) {
            if (one.owner != -1 && !there[one.owner] && time - one.since >= settings[5]) {
                close(one);
                closedVanished++;
            }
        }
        if (settings[6] > 0 && time % settings[6] == 0) {
            idle().forEach(this::closesAsSick);
        }
        for (Connection one : idle()) {
            if (time - one.since >= settings[7] && all().size() > settings[2]) {
                close(one);
                closedIdle++;
            }
        }
        int before = waiters.size();
        for (Waiter waiter : new ArrayList<>(waiters)) {
            if (time - waiter.since >= settings[8]) {
                waiters.remove(waiter);
                gaveUp[waiter.owner]++;
            }
        }
        int givingUp = before - waiters.size();
        serve();
        return givingUp;
    }

    int append(int code) {
        argument(code >= 33 && code <= 126);
        state(buffer.length() < 60);
        buffer += (char) code;
        return buffer.length();
    }

    int clearBuffer() {
        int length = buffer.length();
        buffer = "";
        return length;
    }

    int firstError() {
        Pattern beginning = Pattern.compile("([agsvc][0-7]|\\+[1-9])*[agsvc+]?");
        int at = 0;
        while (at < buffer.length() && beginning.matcher(buffer.substring(0, at + 1)).matches()) {
            at++;
        }
        return at;
    }

    int run() {
        argument(buffer.matches("([agsvc][0-7]|\\+[1-9])+"));
        save();
        int made = 0;
        try {
            while (2 * made < buffer.length()) {
                make(buffer.charAt(2 * made), buffer.charAt(2 * made + 1) - '0');
                made++;
            }
        } catch (IllegalStateException e) {
            // the first call that would throw ends the run
        }
        buffer = "";
        return made;
    }

    private void make(char kind, int number) {
        switch (kind) {
            case 'a' -> askNow(number);
            case 'g' -> giveNow(number);
            case 's' -> sickenNow(number);
            case 'v' -> appearNow(number, false);
            case 'c' -> appearNow(number, true);
            default -> {
                state(time + number <= 9999);
                passNow(number);
            }
        }
    }

    int undo() {
        state(!saved.isEmpty());
        restore(saved.removeLast());
        return saved.size();
    }

    int place(int place, int what) {
        index(isEight(place));
        argument(what >= 0 && what <= 5);
        Connection one = connections[place];
        if (what == 5) {
            return openedAt[place];
        }
        if (one == null) {
            return what == 1 ? -1 : 0;
        }
        int[] properties = {one.owner == -1 ? 1 : 2, one.owner, one.sick ? 1 : 0, one.used, time - one.since};
        return properties[what];
    }

    int owner(int owner, int what) {
        index(isEight(owner));
        argument(what >= 0 && what <= 6);
        Waiter waiter = waiter(owner);
        int[] properties = {there[owner] ? 1 : 0, lentTo(owner), waiters.indexOf(waiter),
            waiter == null ? 0 : time - waiter.since, got[owner], gaveUp[owner], waited[owner]};
        return properties[what];
    }

    int count(int what) {
        argument(what >= 0 && what <= 13);
        int sick = (int) all().stream().filter(one -> one.sick).count();
        int[] counts = {time, all().size(), idle().size(), all().size() - idle().size(), sick, waiters.size(), opened,
            closed, closedSick, closedIdle, closedVanished, checks, lendings, saved.size()};
        return counts[what];
    }

    int setting(int setting) {
        index(setting >= 0 && setting <= 8);
        return settings[setting];
    }

    int ifAsked(int owner, int what) {
        index(isEight(owner));
        argument(what >= 0 && what <= 2);
        if (!there[owner] || waiter(owner) != null) {
            return what == 0 ? -1 : 0;
        }
        PlainPool then = copy();
        int place = then.askNow(owner);
        int[] answers = {place, place != -1 && then.openedAt[place] != openedAt[place] ? 1 : 0, then.closed - closed};
        return answers[what];
    }

    int ifPassed(int units, int what) {
        argument(units >= 0 && units <= 200 && what >= 0 && what <= 3);
        PlainPool then = copy();
        int givingUp = then.passNow(units);
        int[] answers = {givingUp, then.closed - closed, then.all().size(), then.waiters.size()};
        return answers[what];
    }

    int waitsFor(int owner) {
        index(isEight(owner));
        PlainPool then = copy();
        int units = 0;
        while (then.waiter(owner) != null) {
            then.passNow(1);
            units++;
        }
        return then.got[owner] > got[owner] ? units : -1;
    }

    int blocker() {
        int best = -1;
        for (int owner = 7; owner >= 0; owner--) {
            if (!waiters.isEmpty() && lentTo(owner) > 0 && (best == -1 || lentTo(owner) >= lentTo(best))) {
                best = owner;
            }
        }
        return best;
    }

    double fairness() {
        List<Integer> numbers = new ArrayList<>();
        for (int number : got) {
            if (number > 0) {
                numbers.add(number);
            }
        }
        numbers.sort(null);
        return numbers.isEmpty() ? 1.0 : (double) numbers.get(0) / numbers.get(numbers.size() - 1);
    }

    long digest() {
        List<Long> values = new ArrayList<>();
        for (int what = 0; what < 14; what++) {
            values.add((long) count(what));
        }
        for (int setting = 0; setting < 9; setting++) {
            values.add((long) setting(setting));
        }
        for (int place = 0; place < 8; place++) {
            for (int what = 0; what < 6; what++) {
                values.add((long) place(place, what));
            }
        }
        for (int owner = 0; owner < 8; owner++) {
            for (int what = 0; what < 7; what++) {
                values.add((long) owner(owner, what));
            }
            for (int what = 0; what < 3; what++) {
                values.add((long) ifAsked(owner, what));
            }
            values.add((long) waitsFor(owner));
        }
        for (int what = 0; what < 4; what++) {
            values.add((long) ifPassed(12, what));
        }
        values.add((long) blocker());
        values.add(Double.doubleToLongBits(fairness()));
        values.add((long) buffer.length());
        buffer.chars().forEach(sign -> values.add((long) sign));
        long hash = 2753;
        for (long value : values) {
            hash = 31 * hash + value;
        }
        return hash;
    }
}
