/** Promises 20 to 25: ifAsked, ifPassed, waitsFor, blocker, fairness, digest. */
public final class ForecastsTest {
    private static final Class<IndexOutOfBoundsException> INDEX = IndexOutOfBoundsException.class;
    private static final Class<IllegalArgumentException> ARGUMENT = IllegalArgumentException.class;

    public static void main(String[] args) {
        ifAsked();
        ifAskedClosesThoughItWaits();
        ifAskedOfOneBehindAnother();
        ifAskedRefuses();
        ifPassed();
        ifPassedRefuses();
        waitsFor();
        waitsForWhoGivesUp();
        blocker();
        fairness();
        digestOfNew();
        digestByItsList();
        digestOfShares();
        digestForesees12();
        digestSeesTheBuffer();
        Due.end();
    }

    private static void asked(PoolTurns x, int owner, int place, int opened, int closed) {
        long before = x.digest();
        String name = "ifAsked(" + owner + ")";
        Due.row(name, new long[] {x.ifAsked(owner, 0), x.ifAsked(owner, 1), x.ifAsked(owner, 2)}, place, opened, closed);
        Due.equal(name + " changes nothing", x.digest(), before);
    }

    private static void ifAsked() {
        PoolTurns x = new PoolTurns();
        asked(x, 3, 0, 1, 0);
        Due.play(x, "a0a0a1a2g2+1g0s0");
        asked(x, 3, 2, 0, 1);
        x.sicken(2);
        asked(x, 3, 0, 1, 2);
        x.set(4, 0);
        asked(x, 3, 0, 0, 0);
        Due.play(x, "a3a3a1a3");
        asked(x, 4, -1, 0, 0);
        asked(x, 3, -1, 0, 0);
        x.appear(5, false);
        asked(x, 5, -1, 0, 0);
        x.set(0, 8);
        asked(x, 4, 5, 1, 0);
        asked(x, 1, 5, 1, 0);
        asked(x, 3, -1, 0, 0);
    }

    private static void ifAskedClosesThoughItWaits() {
        PoolTurns x = new PoolTurns();
        Due.play(x, "a0a1a2s2g2");
        x.set(0, 2);
        asked(x, 3, -1, 0, 1);
        Due.equal("so it is", x.ask(3), -1);
        Due.equal("closed", x.count(8), 1);
        asked(x, 3, -1, 0, 0);
        x.set(0, 3);
        asked(x, 4, -1, 0, 0);
        Due.play(x, "g0");
        asked(x, 4, 0, 0, 0);
    }

    private static void ifAskedOfOneBehindAnother() {
        PoolTurns x = new PoolTurns();
        Due.play(x, "a0s0g0v1");
        Due.equal("one would be closed", x.ifAsked(0, 2), 1);
        Due.equal("nothing of that for who cannot ask", x.ifAsked(1, 2), 0);
        Due.equal("one would be opened", x.ifAsked(0, 1), 1);
        Due.equal("nor of this", x.ifAsked(1, 1), 0);
    }

    private static void ifAskedRefuses() {
        PoolTurns x = new PoolTurns();
        Due.refused(x, "ifAsked(-1, 0)", INDEX, () -> x.ifAsked(-1, 0));
        Due.refused(x, "ifAsked(8, 0)", INDEX, () -> x.ifAsked(8, 0));
        Due.refused(x, "ifAsked(8, 3), the index first", INDEX, () -> x.ifAsked(8, 3));
        Due.refused(x, "ifAsked(0, -1)", ARGUMENT, () -> x.ifAsked(0, -1));
        Due.refused(x, "ifAsked(0, 3)", ARGUMENT, () -> x.ifAsked(0, 3));
    }

    private static void passed(PoolTurns x, int units, int givingUp, int closed, int connections, int waiters) {
        long before = x.digest();
        String name = "ifPassed(" + units + ")";
        long[] got = {x.ifPassed(units, 0), x.ifPassed(units, 1), x.ifPassed(units, 2), x.ifPassed(units, 3)};
        Due.row(name, got, givingUp, closed, connections, waiters);
        Due.equal(name + " changes nothing", x.digest(), before);
    }

    private static void ifPassed() {
        PoolTurns x = new PoolTurns();
        passed(x, 0, 0, 0, 0, 0);
        passed(x, 200, 0, 0, 0, 0);
        x.set(0, 2);
        x.set(5, 7);
        Due.play(x, "a0a1a2a3a4v0");
        passed(x, 0, 0, 0, 2, 3);
        passed(x, 6, 0, 0, 2, 3);
        passed(x, 7, 0, 1, 2, 2);
        passed(x, 14, 0, 1, 2, 2);
        passed(x, 15, 2, 1, 2, 0);
        passed(x, 200, 2, 1, 2, 0);
        Due.play(x, "g1c0g0");
        passed(x, 20, 1, 0, 2, 0);
        Due.play(x, "g0g1s1");
        passed(x, 4, 0, 0, 2, 0);
        passed(x, 5, 0, 1, 1, 0);
        passed(x, 25, 0, 1, 1, 0);
        x.drain();
        passed(x, 25, 0, 0, 1, 0);
    }

    private static void ifPassedRefuses() {
        PoolTurns x = new PoolTurns();
        Due.refused(x, "ifPassed(-1, 0)", ARGUMENT, () -> x.ifPassed(-1, 0));
        Due.refused(x, "ifPassed(201, 0)", ARGUMENT, () -> x.ifPassed(201, 0));
        Due.refused(x, "ifPassed(0, -1)", ARGUMENT, () -> x.ifPassed(0, -1));
        Due.refused(x, "ifPassed(0, 4)", ARGUMENT, () -> x.ifPassed(0, 4));
        Due.refused(x, "ifPassed(MAX, MAX)", ARGUMENT, () -> x.ifPassed(Integer.MAX_VALUE, Integer.MAX_VALUE));
    }

    private static void waitsFor() {
        PoolTurns x = new PoolTurns();
        x.set(0, 2);
        Due.play(x, "a0a0a1+3a2v0+2");
        Due.equal("the first lease ends at 10", x.waitsFor(1), 5);
        Due.equal("the second one too", x.waitsFor(2), 5);
        Due.equal("does not wait", x.waitsFor(3), -1);
        Due.equal("vanished", x.waitsFor(0), -1);
        long before = x.digest();
        x.waitsFor(1);
        Due.equal("changes nothing", x.digest(), before);
        Due.equal("nobody gives up", x.pass(5), 0);
        Due.equal("so it is", x.owner(1, 1) + x.owner(2, 1), 2);
        Due.play(x, "v1c0a0+4");
        Due.equal("the lowest owner too", x.waitsFor(0), 6);
        Due.refused(x, "waitsFor(-1)", INDEX, () -> x.waitsFor(-1));
        Due.refused(x, "waitsFor(8)", INDEX, () -> x.waitsFor(8));
    }

    private static void waitsForWhoGivesUp() {
        PoolTurns x = new PoolTurns();
        x.set(0, 1);
        x.set(5, 99);
        x.set(8, 99);
        Due.play(x, "a0v0+1a1");
        Due.equal("98 units more", x.waitsFor(1), 98);
        x.set(8, 98);
        Due.equal("gives up in the unit in which it would get it", x.waitsFor(1), -1);
        x.set(8, 99);
        x.appear(0, true);
        Due.equal("nobody gives back", x.waitsFor(1), -1);
        x.appear(0, false);
        Due.play(x, "+1a2");
        Due.equal("the first one gets it", x.waitsFor(1), 97);
        Due.equal("the next one does not", x.waitsFor(2), -1);
    }

    private static void blocker() {
        PoolTurns x = new PoolTurns();
        x.set(0, 5);
        Due.play(x, "a5a6a6a7a7");
        Due.equal("nobody waits", x.blocker(), -1);
        x.ask(0);
        Due.equal("of several the lowest", x.blocker(), 6);
        x.appear(6, false);
        Due.equal("who vanished blocks too", x.blocker(), 6);
        x.appear(6, true);
        x.set(1, 3);
        Due.play(x, "a7g0");
        Due.equal("the waiter of before got it", x.place(0, 1), 0);
        Due.play(x, "g1");
        Due.equal("now one waits no more", x.blocker(), -1);
        x.ask(1);
        Due.equal("most of all", x.blocker(), 7);
        x.giveUp(1);
        Due.equal("nobody waits again", x.blocker(), -1);

        PoolTurns y = new PoolTurns();
        y.set(0, 1);
        Due.play(y, "a0a1");
        Due.equal("who has but one blocks too", y.blocker(), 0);
    }

    private static void bits(String what, double got, double want) {
        Due.equal(what, Double.doubleToLongBits(got), Double.doubleToLongBits(want));
    }

    private static void fairness() {
        PoolTurns x = new PoolTurns();
        bits("nobody got any", x.fairness(), 1.0);
        x.ask(0);
        bits("one got one", x.fairness(), 1.0);
        Due.play(x, "g0a0g0a0");
        bits("only one owner", x.fairness(), 1.0);
        x.ask(1);
        bits("1 of 3", x.fairness(), 1.0 / 3);
        Due.play(x, "g1a1a2g1a2");
        bits("2 of 3", x.fairness(), 2.0 / 3);
    }

    private static void digestOfNew() {
        Due.equal("digest of a new one", new PoolTurns().digest(), byItsList(new PoolTurns(), ""));
        Due.equal("twice the same", new PoolTurns().digest(), new PoolTurns().digest());
    }

    private static void digestByItsList() {
        PoolTurns x = new PoolTurns();
        x.set(8, 99);
        // each text changes the share, so its bits are seen for many fractions
        String[] texts = {"a0", "a1", "g0", "a0", "g0", "a0", "a2", "a3", "v0", "+9", "+9", "c0", "a0a0", "+3", "s0g0",
            "g1", "a4", "+5", "g2", "a1", "a5", "v4", "+9+9", "g3", "a6", "a7"};
        for (String text : texts) {
            Due.write(x, text);
            x.run();
            Due.equal("digest behind " + text, x.digest(), byItsList(x, ""));
        }
        for (int round = 0; round < 40; round++) {
            Due.write(x, "g" + (round % 4) + "a" + (round % 8));
            x.run();
            Due.equal("digest in round " + round, x.digest(), byItsList(x, ""));
        }
    }

    private static void digestOfShares() {
        PoolTurns x = new PoolTurns();
        for (int greatest = 1; greatest <= 17; greatest++) {
            Due.play(x, "a0g0");
        }
        for (int least = 1; least <= 17; least++) {
            Due.play(x, "a1g0");
            bits("share " + least, x.fairness(), least / 17.0);
            Due.equal("digest with share " + least, x.digest(), byItsList(x, ""));
        }
    }

    private static void digestForesees12() {
        for (int waited = 1; waited <= 5; waited++) {
            PoolTurns x = new PoolTurns();
            x.set(0, 1);
            Due.play(x, "a0a1+" + waited);
            Due.equal("gives up in 12 units", x.ifPassed(12, 0), waited < 3 ? 0 : 1);
            Due.equal("digest behind " + waited, x.digest(), byItsList(x, ""));
        }
    }

    private static void digestSeesTheBuffer() {
        PoolTurns x = new PoolTurns();
        Due.write(x, "a1~!");
        Due.equal("digest with a buffer", x.digest(), byItsList(x, "a1~!"));
    }

    /** The hash of promise 25, made of the answers of the other calls. */
    private static long byItsList(PoolTurns x, String buffer) {
        long hash = 2753;
        for (int what = 0; what < 14; what++) {
            hash = 31 * hash + x.count(what);
        }
        for (int setting = 0; setting < 9; setting++) {
            hash = 31 * hash + x.setting(setting);
        }
        for (int place = 0; place < 8; place++) {
            for (int what = 0; what < 6; what++) {
                hash = 31 * hash + x.place(place, what);
            }
        }
        for (int owner = 0; owner < 8; owner++) {
            for (int what = 0; what < 7; what++) {
                hash = 31 * hash + x.owner(owner, what);
            }
            for (int what = 0; what < 3; what++) {
                hash = 31 * hash + x.ifAsked(owner, what);
            }
            hash = 31 * hash + x.waitsFor(owner);
        }
        for (int what = 0; what < 4; what++) {
            hash = 31 * hash + x.ifPassed(12, what);
        }
        hash = 31 * hash + x.blocker();
        hash = 31 * hash + Double.doubleToLongBits(x.fairness());
        hash = 31 * hash + buffer.length();
        for (char sign : buffer.toCharArray()) {
            hash = 31 * hash + sign;
        }
        return hash;
    }
}
