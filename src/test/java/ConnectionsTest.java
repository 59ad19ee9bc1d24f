/** Promises 6 to 10: sicken, check, drain, set, pass. */
public final class ConnectionsTest {
    private static final Class<IndexOutOfBoundsException> INDEX = IndexOutOfBoundsException.class;
    private static final Class<IllegalStateException> STATE = IllegalStateException.class;
    private static final Class<IllegalArgumentException> ARGUMENT = IllegalArgumentException.class;
    private static final int[] LEAST = {1, 1, 0, 0, 0, 1, 0, 1, 1};
    private static final int[] GREATEST = {8, 8, 8, 1, 1, 99, 99, 99, 99};

    public static void main(String[] args) {
        sicken();
        check();
        drain();
        drainOfAll();
        setRanges();
        setServes();
        setKeepsWhatIsThere();
        passRefuses();
        leasesOfVanished();
        checksInTime();
        idleOnesAreClosed();
        orderInOneUnit();
        waitersGiveUp();
        timeHasAnEnd();
        Due.end();
    }

    private static void sicken() {
        PoolTurns x = new PoolTurns();
        Due.play(x, "a0a1g1");
        Due.equal("lent one", x.sicken(0), 1);
        Due.equal("idle one", x.sicken(1), 1);
        Due.equal("sick already", x.sicken(0), 0);
        Due.equal("sick ones", x.count(4), 2);
        Due.row("nobody sees it", Due.place(x, 0), 2, 0, 1, 1, 0, 1);
        Due.equal("saved also without a change", x.count(13), 4);
        Due.refused(x, "sicken(-1)", INDEX, () -> x.sicken(-1));
        Due.refused(x, "sicken(8)", INDEX, () -> x.sicken(8));
        Due.refused(x, "sicken of empty", STATE, () -> x.sicken(2));
    }

    private static void check() {
        PoolTurns x = new PoolTurns();
        Due.equal("nothing to check", x.check(), 0);
        Due.equal("saved also without a change", x.count(13), 1);
        Due.play(x, "a0a1a2a3s0s1s3g1g2g3");
        Due.equal("two idle ones are sick", x.check(), 2);
        Due.row("places", Due.places(x, 0), 2, 0, 1, 0, 0, 0, 0, 0);
        Due.row("counts", Due.counts(x), 0, 2, 1, 1, 1, 0, 4, 2, 2, 0, 0, 3, 4, 3);
        Due.equal("checked once more", x.check(), 0);
        Due.equal("checks", x.count(11), 4);
    }

    private static void drain() {
        PoolTurns x = new PoolTurns();
        Due.equal("nothing to close", x.drain(), 0);
        Due.play(x, "a0a1a2s1g1g2");
        Due.equal("two idle ones", x.drain(), 2);
        Due.row("counts", Due.counts(x), 0, 1, 0, 1, 0, 0, 3, 2, 0, 0, 0, 0, 3, 3);
        Due.equal("place closed", x.place(1, 2), 0);
        Due.equal("opened anew, sound", x.ask(3), 1);
        Due.row("new connection", Due.place(x, 1), 2, 3, 0, 1, 0, 2);
    }

    private static void drainOfAll() {
        PoolTurns x = new PoolTurns();
        x.set(0, 8);
        Due.play(x, "a0a1a2a3a4a5a6a7s0s7g0g1g2g3g4g5g6g7");
        Due.equal("all eight", x.drain(), 8);
        Due.row("counts", Due.counts(x), 0, 0, 0, 0, 0, 0, 8, 8, 0, 0, 0, 0, 8, 3);
    }

    private static void setRanges() {
        for (int setting = 0; setting < 9; setting++) {
            PoolTurns x = new PoolTurns();
            int one = setting;
            String name = "set(" + setting + ")";
            int first = x.setting(setting);
            Due.refused(x, name + " too low", ARGUMENT, () -> x.set(one, LEAST[one] - 1));
            Due.refused(x, name + " too high", ARGUMENT, () -> x.set(one, GREATEST[one] + 1));
            Due.refused(x, name + " lowest", ARGUMENT, () -> x.set(one, Integer.MIN_VALUE));
            Due.refused(x, name + " highest", ARGUMENT, () -> x.set(one, Integer.MAX_VALUE));
            Due.equal(name + " least", x.set(setting, LEAST[setting]), first);
            Due.equal(name + " greatest", x.set(setting, GREATEST[setting]), LEAST[setting]);
            Due.equal(name + " same", x.set(setting, GREATEST[setting]), GREATEST[setting]);
            Due.equal(name + " now", x.setting(setting), GREATEST[setting]);
            Due.equal(name + " saves each", x.count(13), 3);
        }
        PoolTurns x = new PoolTurns();
        Due.refused(x, "set(-1, 1)", INDEX, () -> x.set(-1, 1));
        Due.refused(x, "set(9, 1)", INDEX, () -> x.set(9, 1));
        Due.refused(x, "set(9, -1), the index first", INDEX, () -> x.set(9, -1));
    }

    private static void setServes() {
        PoolTurns x = new PoolTurns();
        x.set(0, 1);
        x.set(1, 1);
        Due.play(x, "a0a0a1a2+1");
        x.set(0, 3);
        Due.row("room for two, not for who has one", Due.places(x, 1), 0, 1, 2, -1, -1, -1, -1, -1);
        Due.equal("waits on", x.owner(0, 2), 0);
        x.set(0, 4);
        Due.equal("may still not have more", x.owner(0, 1), 1);
        x.set(1, 2);
        Due.row("more of an owner", Due.owner(x, 0), 1, 2, -1, 0, 2, 0, 1);
    }

    private static void setKeepsWhatIsThere() {
        PoolTurns x = new PoolTurns();
        Due.play(x, "a0a0a1g2");
        x.set(0, 1);
        x.set(1, 1);
        Due.equal("too many stay", x.count(1), 3);
        Due.equal("an idle one is lent still", x.ask(2), 2);
        Due.equal("no room", x.ask(3), -1);
        Due.equal("two of one owner stay", x.owner(0, 1), 2);
    }

    private static void passRefuses() {
        PoolTurns x = new PoolTurns();
        Due.refused(x, "pass(0)", ARGUMENT, () -> x.pass(0));
        Due.refused(x, "pass(-1)", ARGUMENT, () -> x.pass(-1));
        Due.refused(x, "pass(100)", ARGUMENT, () -> x.pass(100));
        Due.refused(x, "pass(MIN)", ARGUMENT, () -> x.pass(Integer.MIN_VALUE));
        Due.refused(x, "pass(MAX)", ARGUMENT, () -> x.pass(Integer.MAX_VALUE));
        Due.equal("pass(99)", x.pass(99), 0);
        Due.equal("pass(1)", x.pass(1), 0);
        Due.equal("time", x.count(0), 100);
        Due.equal("one saved state each", x.count(13), 2);
    }

    private static void leasesOfVanished() {
        PoolTurns x = new PoolTurns();
        x.set(5, 3);
        Due.play(x, "a0a1+1a0v0+1");
        Due.row("not yet", Due.places(x, 0), 2, 2, 2, 0, 0, 0, 0, 0);
        x.pass(1);
        Due.row("three units after it was lent", Due.places(x, 0), 0, 2, 2, 0, 0, 0, 0, 0);
        x.pass(1);
        Due.row("the later one", Due.places(x, 0), 0, 2, 0, 0, 0, 0, 0, 0);
        Due.equal("because of that", x.count(10), 2);
        Due.equal("closed", x.count(7), 2);
        x.pass(50);
        Due.equal("who is there keeps it", x.place(1, 1), 1);

        PoolTurns y = new PoolTurns();
        y.set(0, 1);
        Due.play(y, "a0a1v0+9");
        Due.equal("still waits", y.owner(1, 3), 9);
        y.pass(1);
        Due.row("opened for the waiter in the same unit", Due.place(y, 0), 2, 1, 0, 1, 0, 2);
        Due.equal("waited", y.owner(1, 6), 10);

        PoolTurns z = new PoolTurns();
        Due.play(z, "a0v0+9c0+9");
        Due.equal("who came back keeps it", z.place(0, 4), 18);
    }

    private static void checksInTime() {
        PoolTurns x = new PoolTurns();
        Due.play(x, "a0a1a2s0g0g1+4");
        Due.equal("no check yet", x.count(11), 0);
        x.pass(1);
        Due.row("at 5: two checks, one sick", Due.counts(x), 5, 2, 1, 1, 0, 0, 3, 1, 1, 0, 0, 2, 3, 2);
        x.set(7, 99);
        x.set(6, 0);
        x.pass(10);
        Due.equal("no checks at all", x.count(11), 2);
        x.set(6, 7);
        x.pass(6);
        Due.equal("divisible by 7 at 21", x.count(11), 3);
    }

    private static void idleOnesAreClosed() {
        PoolTurns x = new PoolTurns();
        x.set(6, 0);
        x.set(7, 3);
        Due.play(x, "a0a1a2g2+1g0g1+1");
        Due.equal("not yet", x.count(1), 3);
        x.pass(1);
        Due.row("the one idle for 3", Due.places(x, 0), 1, 1, 0, 0, 0, 0, 0, 0);
        x.pass(1);
        Due.row("one is kept, the lower place goes first", Due.places(x, 0), 0, 1, 0, 0, 0, 0, 0, 0);
        Due.equal("because of that", x.count(9), 2);
        x.pass(20);
        Due.equal("kept", x.count(1), 1);
        x.set(2, 0);
        x.pass(1);
        Due.equal("none is kept", x.count(1), 0);

        PoolTurns y = new PoolTurns();
        y.set(7, 1);
        Due.play(y, "a0a1g1+1");
        Due.equal("lent ones count among those kept", y.count(1), 1);
        Due.equal("closed", y.count(9), 1);
    }

    private static void orderInOneUnit() {
        PoolTurns x = new PoolTurns();
        x.set(5, 1);
        x.set(6, 1);
        x.set(7, 1);
        x.set(2, 1);
        Due.play(x, "a0a1a2s1g1g2v0+1");
        Due.row("lease, then sick, then kept", Due.places(x, 0), 0, 0, 1, 0, 0, 0, 0, 0);
        Due.row("counts", Due.counts(x), 1, 1, 1, 0, 0, 0, 3, 2, 1, 0, 1, 2, 3, 5);

        PoolTurns y = new PoolTurns();
        y.set(0, 1);
        y.set(5, 3);
        y.set(8, 3);
        Due.play(y, "a0a1v0");
        Due.equal("giving up comes ahead of serving", y.pass(3), 1);
        Due.row("nobody got it", Due.owner(y, 1), 1, 0, -1, 0, 0, 1, 0);
        Due.equal("closed", y.count(1), 0);
    }

    private static void waitersGiveUp() {
        PoolTurns x = new PoolTurns();
        x.set(0, 1);
        x.set(8, 4);
        Due.play(x, "a0a1a2+1a3a4");
        Due.equal("none yet", x.pass(2), 0);
        Due.equal("two, and two more", x.pass(2), 4);
        Due.equal("gave up", x.owner(3, 5), 1);
        Due.play(x, "a1a2+1a3");
        x.set(8, 1);
        Due.equal("still waits, until time passes", x.count(5), 3);
        Due.equal("all of them", x.pass(1), 3);
        Due.equal("gave up twice", x.owner(1, 5), 2);
        Due.equal("nothing got, nothing waited", x.owner(1, 6), 0);
    }

    private static void timeHasAnEnd() {
        PoolTurns x = new PoolTurns();
        x.set(0, 1);
        for (int round = 0; round < 100; round++) {
            x.pass(99);
        }
        Due.equal("time", x.count(0), 9900);
        x.pass(98);
        Due.refused(x, "above 9999", STATE, () -> x.pass(2));
        Due.refused(x, "pass(100), the argument first", ARGUMENT, () -> x.pass(100));
        Due.equal("9999 is fine", x.pass(1), 0);
        Due.refused(x, "above 9999", STATE, () -> x.pass(1));
        Due.play(x, "a0a1v0");
        Due.equal("the limit does not matter for ifPassed", x.ifPassed(200, 1), 1);
        Due.equal("nor for waitsFor", x.waitsFor(1), 10);
        Due.write(x, "c0+1g0");
        Due.equal("run stops at the end of time", x.run(), 1);
        Due.equal("so it is lent still", x.place(0, 1), 0);
    }
}
