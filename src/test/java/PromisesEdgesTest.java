/** The boundary cases that the promises themselves name, promise by promise; the quotes are the document's. */
public final class PromisesEdgesTest {
    private static final Class<IndexOutOfBoundsException> INDEX = IndexOutOfBoundsException.class;
    private static final Class<IllegalStateException> STATE = IllegalStateException.class;
    private static final Class<IllegalArgumentException> ARGUMENT = IllegalArgumentException.class;
    private static final int[] NOT_ONE_OF_EIGHT = {Integer.MIN_VALUE, -8, -1, 8, 9, 16, Integer.MAX_VALUE};

    public static void main(String[] args) {
        newObjectsAreApart();
        firstAndLastOfEight();
        noSuchOne();
        giveLendsAnotherOne();
        giveOpensElsewhere();
        giveUpAtOnce();
        giveUpOfWhoDoesNotWait();
        appearTellsHowMany();
        sickenOfEmptied();
        checkOfEight();
        drainOfLentOnes();
        setAloneClosesNothing();
        setOfNoSuchOne();
        passTellsWhoGivesUp();
        passUpTo9999();
        appendAndClear();
        firstErrorOfNone();
        runStopsAt9999();
        runOfOnePart();
        undoOfUndo();
        placeOfEmptied();
        ownerWithNothing();
        countsAtTheirGreatest();
        noSuchProperty();
        ifAskedAtTheLimits();
        ifPassedOfNoTime();
        ifPassedOf200();
        ifPassedOfWrongOnes();
        waitsForOne();
        waitsForAt9999();
        blockerOfEight();
        fairnessOfWhoGotNone();
        digestOfFullBuffer();
        digestAtTheEndOfTime();
        Due.end();
    }

    /** Promise 1: "Creates a pool without connections, at the time 0, with an empty buffer." */
    private static void newObjectsAreApart() {
        PoolTurns x = new PoolTurns();
        x.set(0, 8);
        Due.play(x, "a0a1+5v3");
        x.append('a');
        PoolTurns y = new PoolTurns();
        Due.row("a second one", Due.counts(y), 0, 0, 0, 0, 0, 0, 0, 0, 0, 0, 0, 0, 0, 0);
        Due.equal("its setting", y.setting(0), 4);
        Due.equal("its owner", y.owner(3, 0), 1);
        Due.equal("its buffer", y.firstError(), 0);
        Due.refused(y, "its undo", STATE, () -> y.undo());
        Due.equal("the first one is as it was", x.count(1), 2);
    }

    /** "0 to 7": the first and the last one are fine wherever an owner or a place is named. */
    private static void firstAndLastOfEight() {
        PoolTurns x = new PoolTurns();
        x.set(0, 8);
        x.set(1, 8);
        Due.play(x, "a0a0a0a0a0a0a0");
        Due.equal("ask(7)", x.ask(7), 7);
        Due.equal("sicken(0)", x.sicken(0), 1);
        Due.equal("sicken(7)", x.sicken(7), 1);
        Due.equal("give(0)", x.give(0), -1);
        Due.equal("give(7)", x.give(7), -1);
        Due.equal("check", x.check(), 2);
        Due.equal("ask(0)", x.ask(0), 0);
        Due.equal("ask(7)", x.ask(7), 7);
        Due.equal("ask(0) waits", x.ask(0), -1);
        Due.equal("ask(7) waits", x.ask(7), -1);
        Due.equal("ifAsked(0, 0)", x.ifAsked(0, 0), -1);
        Due.equal("ifAsked(7, 0)", x.ifAsked(7, 0), -1);
        Due.equal("waitsFor(0)", x.waitsFor(0), -1);
        Due.equal("waitsFor(7)", x.waitsFor(7), -1);
        Due.equal("giveUp(0)", x.giveUp(0), 0);
        Due.equal("giveUp(7)", x.giveUp(7), 0);
        Due.equal("appear(0)", x.appear(0, false), 7);
        Due.equal("appear(7)", x.appear(7, false), 1);
        Due.row("place(0)", Due.place(x, 0), 2, 0, 0, 1, 0, 2);
        Due.row("place(7)", Due.place(x, 7), 2, 7, 0, 1, 0, 2);
        Due.row("owner(0)", Due.owner(x, 0), 0, 7, -1, 0, 8, 1, 0);
        Due.row("owner(7)", Due.owner(x, 7), 0, 1, -1, 0, 2, 1, 0);
    }

    /** "if there is no such owner", "if there is no such place": just outside, and far outside. */
    private static void noSuchOne() {
        PoolTurns x = new PoolTurns();
        x.set(0, 1);
        Due.play(x, "a0a1v7+1");
        for (int one : NOT_ONE_OF_EIGHT) {
            String at = "(" + one + ")";
            Due.refused(x, "ask" + at, INDEX, () -> x.ask(one));
            Due.refused(x, "give" + at, INDEX, () -> x.give(one));
            Due.refused(x, "giveUp" + at, INDEX, () -> x.giveUp(one));
            Due.refused(x, "appear, there" + at, INDEX, () -> x.appear(one, true));
            Due.refused(x, "appear, vanished" + at, INDEX, () -> x.appear(one, false));
            Due.refused(x, "sicken" + at, INDEX, () -> x.sicken(one));
            Due.refused(x, "place" + at, INDEX, () -> x.place(one, 0));
            Due.refused(x, "place of nothing" + at, INDEX, () -> x.place(one, -1));
            Due.refused(x, "owner" + at, INDEX, () -> x.owner(one, 0));
            Due.refused(x, "owner of nothing" + at, INDEX, () -> x.owner(one, 7));
            Due.refused(x, "ifAsked" + at, INDEX, () -> x.ifAsked(one, 0));
            Due.refused(x, "ifAsked of nothing" + at, INDEX, () -> x.ifAsked(one, 3));
            Due.refused(x, "waitsFor" + at, INDEX, () -> x.waitsFor(one));
        }
    }

    /** Promise 3: "NONE if none is lent there then": the giver waits, and gets one that has been idle for longer. */
    private static void giveLendsAnotherOne() {
        for (int order = 0; order < 2; order++) {
            PoolTurns x = new PoolTurns();
            x.set(1, 1);
            x.set(3, order);
            Due.play(x, "a0a1g1+2a0");
            Due.equal("waits, though one is idle", x.owner(0, 2), 0);
            Due.equal("give, order " + order, x.give(0), order == 0 ? 0 : -1);
            Due.equal("place 1, order " + order, x.place(1, 1), order == 0 ? -1 : 0);
            Due.equal("one connection", x.owner(0, 1), 1);
            Due.equal("waited for it", x.owner(0, 6), 0);
            Due.equal("got two", x.owner(0, 4), 2);
        }
    }

    /** Promise 3: a sick one is closed behind the call, and the waiter gets a new one at a lower place. */
    private static void giveOpensElsewhere() {
        PoolTurns x = new PoolTurns();
        Due.play(x, "a0a1s1g0");
        x.drain();
        x.set(0, 1);
        Due.play(x, "a2");
        Due.equal("none is lent there", x.give(1), -1);
        Due.row("opened at the lowest place", Due.place(x, 0), 2, 2, 0, 1, 0, 2);
        Due.equal("closed there", x.place(1, 0), 0);
    }

    /** Promise 4: "Returns how long it has waited": not at all, and for the longest time. */
    private static void giveUpAtOnce() {
        PoolTurns x = new PoolTurns();
        x.set(0, 1);
        x.set(8, 99);
        Due.play(x, "a0a1a2");
        Due.equal("at once", x.giveUp(1), 0);
        x.pass(98);
        Due.equal("at the last moment", x.giveUp(2), 98);
        Due.equal("nobody is left", x.pass(1), 0);
        Due.equal("gave up once", x.owner(2, 5), 1);
        Due.equal("what was waited in vain is not added", x.owner(2, 6), 0);
        x.undo();
        x.undo();
        Due.equal("with undo it waits again", x.owner(2, 3), 98);
    }

    /** Promise 4: "if it does not wait": never did, has got one, has given up, has vanished. */
    private static void giveUpOfWhoDoesNotWait() {
        PoolTurns x = new PoolTurns();
        x.set(0, 1);
        x.set(8, 3);
        Due.play(x, "a0a1a2a3v3g0+3");
        for (int owner = 0; owner < 5; owner++) {
            int one = owner;
            Due.refused(x, "giveUp(" + owner + ")", STATE, () -> x.giveUp(one));
        }
    }

    /** Promise 5: "Returns how many connections are lent to it": none, all eight, those that are left. */
    private static void appearTellsHowMany() {
        PoolTurns x = new PoolTurns();
        x.set(0, 8);
        x.set(1, 8);
        Due.equal("none", x.appear(4, false), 0);
        Due.equal("none when it is back", x.appear(4, true), 0);
        Due.play(x, "a4a4a4a4+5a4a4a4a4");
        Due.equal("eight", x.appear(4, false), 8);
        x.pass(5);
        Due.equal("four leases ended", x.appear(4, true), 4);
        Due.refused(x, "is there", STATE, () -> x.appear(4, true));
    }

    /** Promise 6: "if the place is empty": never opened, closed again. */
    private static void sickenOfEmptied() {
        PoolTurns x = new PoolTurns();
        Due.refused(x, "never opened", STATE, () -> x.sicken(7));
        Due.play(x, "a0g0");
        x.drain();
        Due.refused(x, "closed again", STATE, () -> x.sicken(0));
        Due.play(x, "a0");
        Due.equal("opened again, sound", x.sicken(0), 1);
        Due.equal("sick", x.sicken(0), 0);
    }

    /** Promise 7: "Checks all idle connections, and closes those that are sick." */
    private static void checkOfEight() {
        PoolTurns x = new PoolTurns();
        x.set(0, 8);
        x.set(2, 8);
        Due.play(x, "a0a1a2a3a4a5a6a7s0s1s2s3s4s5s6s7g0g1g2g3g4g5g6");
        Due.equal("seven of eight are idle", x.check(), 7);
        Due.row("counts", Due.counts(x), 0, 1, 0, 1, 1, 0, 8, 7, 7, 0, 0, 7, 8, 4);
        Due.equal("the last one", x.give(7), -1);
        Due.equal("is closed", x.check(), 1);
        Due.equal("none is left", x.check(), 0);
        Due.equal("eight checks", x.count(11), 8);
    }

    /** Promise 8: "Closes all idle connections": lent ones stay, kept ones do not. */
    private static void drainOfLentOnes() {
        PoolTurns x = new PoolTurns();
        x.set(2, 8);
        Due.play(x, "a0a1a2");
        Due.equal("none is idle", x.drain(), 0);
        Due.equal("three stay", x.count(3), 3);
        Due.play(x, "g0g2");
        Due.equal("two", x.drain(), 2);
        Due.row("one stays", Due.places(x, 0), 0, 2, 0, 0, 0, 0, 0, 0);
        Due.equal("no reason is counted", x.count(8) + x.count(9) + x.count(10), 0);
        Due.equal("no check", x.count(11), 0);
    }

    /** Promise 9: "connections that there are stay, also if they are too many"; what is too long by now ends in time. */
    private static void setAloneClosesNothing() {
        PoolTurns x = new PoolTurns();
        x.set(2, 8);
        x.set(6, 0);
        Due.play(x, "a0a0a1a2v1g3+9a0");
        int[] least = {1, 1, 0, 0, 0, 1, 1, 1, 1};
        for (int setting = 0; setting < 9; setting++) {
            x.set(setting, least[setting]);
            Due.row("behind set of " + setting, Due.counts(x), 9, 4, 1, 3, 0, 1, 4, 0, 0, 0, 0, 0, 4,
                Math.min(6, 4 + setting));
        }
        Due.equal("then the waiter gives up", x.pass(1), 1);
        Due.row("a lease ends, an idle one is closed", Due.places(x, 0), 2, 2, 0, 0, 0, 0, 0, 0);
    }

    /** Promise 9: "if there is no such setting" goes ahead of "if value is out of range". */
    private static void setOfNoSuchOne() {
        PoolTurns x = new PoolTurns();
        for (int setting : new int[] {Integer.MIN_VALUE, -1, 9, Integer.MAX_VALUE}) {
            Due.refused(x, "set(" + setting + ", 1)", INDEX, () -> x.set(setting, 1));
            Due.refused(x, "set(" + setting + ", 100)", INDEX, () -> x.set(setting, 100));
            Due.refused(x, "setting(" + setting + ")", INDEX, () -> x.setting(setting));
        }
        Due.equal("the first one", x.setting(0), 4);
        Due.equal("the last one", x.setting(8), 15);
    }

    /** Promise 10: "Returns how many waiters give up in it": none, all in several units; those who get one do not. */
    private static void passTellsWhoGivesUp() {
        PoolTurns x = new PoolTurns();
        x.set(0, 1);
        x.set(5, 3);
        Due.play(x, "a0a1+1a2+1a3a4a5a6a7a0v0");
        Due.equal("the lease ends first", x.pass(1), 0);
        Due.equal("one got it", x.owner(1, 6), 3);
        Due.equal("all the others", x.pass(99), 6);
        Due.equal("nobody waits", x.count(5), 0);
        Due.equal("who vanished did not give up", x.owner(0, 5), 0);
        Due.equal("undone as one call", x.undo(), 4);
        Due.equal("at 3", x.count(0), 3);
        Due.equal("six wait again", x.count(5), 6);
    }

    /** Promise 10: "if the time would be above 9999": nothing of it passes. */
    private static void passUpTo9999() {
        PoolTurns x = new PoolTurns();
        Due.pass(x, 9901);
        Due.refused(x, "99 units to 10000", STATE, () -> x.pass(99));
        Due.equal("98 units to 9999", x.pass(98), 0);
        for (int units : new int[] {1, 2, 99}) {
            Due.refused(x, "pass(" + units + ")", STATE, () -> x.pass(units));
        }
        for (int units : new int[] {Integer.MIN_VALUE, -1, 0, 100, Integer.MAX_VALUE}) {
            Due.refused(x, "pass(" + units + ")", ARGUMENT, () -> x.pass(units));
        }
        Due.equal("undo leads back", x.undo(), 5);
        Due.equal("one unit is fine", x.pass(1), 0);
        Due.equal("time", x.count(0), 9902);
    }

    /** Promises 11 and 12: an empty and a full buffer, and codes at the ends. */
    private static void appendAndClear() {
        PoolTurns x = new PoolTurns();
        for (int round = 0; round < 2; round++) {
            Due.equal("empty", x.clearBuffer(), 0);
            for (int length = 1; length <= 60; length++) {
                Due.equal("append", x.append(length % 2 == 0 ? 33 : 126), length);
            }
            for (int code : new int[] {33, 126}) {
                Due.refused(x, "append(" + code + ") to 60", STATE, () -> x.append(code));
            }
            for (int code : new int[] {Integer.MIN_VALUE, -1, 0, 32, 127, 128, 65633, Integer.MAX_VALUE}) {
                Due.refused(x, "append(" + code + ")", ARGUMENT, () -> x.append(code));
            }
            Due.equal("full", x.clearBuffer(), 60);
        }
    }

    /** Promise 13: "the length of the buffer if there is none": also 0 of an empty one. */
    private static void firstErrorOfNone() {
        PoolTurns x = new PoolTurns();
        Due.equal("empty", x.firstError(), 0);
        for (int length = 1; length <= 60; length++) {
            x.append("+9a7".charAt((length - 1) % 4));
            Due.equal("no error", x.firstError(), length);
        }
        x.clearBuffer();
        x.append('!');
        Due.equal("the first one", x.firstError(), 0);
        x.append('a');
        Due.equal("what is fine behind it does not matter", x.firstError(), 0);
        x.clearBuffer();
        Due.equal("empty again", x.firstError(), 0);
    }

    /** Promise 14: a "+" that would lead above 9999 is not made at all, and nothing behind it. */
    private static void runStopsAt9999() {
        PoolTurns x = new PoolTurns();
        Due.pass(x, 9990);
        Due.write(x, "+5+5a0");
        Due.equal("the second one would be too much", x.run(), 1);
        Due.equal("time", x.count(0), 9995);
        Due.equal("no connection", x.count(1), 0);
        Due.write(x, "+4a0+1");
        Due.equal("9999 is fine", x.run(), 2);
        Due.equal("time", x.count(0), 9999);
        Due.equal("asked", x.count(1), 1);
    }

    /** Promise 14: one part, each kind, made and not made. */
    private static void runOfOnePart() {
        String[] parts = {"a3", "g0", "s0", "v2", "c4", "+1"};
        for (String part : parts) {
            PoolTurns x = new PoolTurns();
            Due.play(x, "a0v4");
            Due.write(x, part);
            Due.equal("run of " + part, x.run(), 1);
            Due.equal("saved", x.count(13), 2);
            Due.equal("undo", x.undo(), 1);
        }
        String[] refused = {"a4", "a5", "g1", "g2", "s2", "v4", "c3"};
        for (String part : refused) {
            PoolTurns x = new PoolTurns();
            x.set(0, 2);
            Due.play(x, "a0a4v4a5");
            long[] before = Due.state(x);
            Due.write(x, part + "a6");
            Due.equal("run of " + part, x.run(), 0);
            Due.row("nothing is made of " + part, Due.state(x), before);
            Due.equal("saved", x.count(13), 3);
            Due.equal("the buffer is cleared", x.clearBuffer(), 0);
        }
    }

    /** Promise 15: "Restores the latest saved state, and drops it": an undo is not undone by the next one. */
    private static void undoOfUndo() {
        PoolTurns x = new PoolTurns();
        Due.refused(x, "of a new one", STATE, () -> x.undo());
        x.pass(1);
        x.pass(2);
        Due.equal("undo", x.undo(), 1);
        Due.equal("time", x.count(0), 1);
        Due.equal("undo", x.undo(), 0);
        Due.equal("time", x.count(0), 0);
        Due.refused(x, "of none", STATE, () -> x.undo());
    }

    /** Promise 16: "NONE if it is not", "0 for 2 to 4 if it is empty"; what was opened there stays counted. */
    private static void placeOfEmptied() {
        PoolTurns x = new PoolTurns();
        x.set(0, 1);
        x.set(6, 0);
        for (int opened = 1; opened <= 9; opened++) {
            Due.play(x, "a7+1s0g0+1");
            Due.row("idle, sick", Due.place(x, 0), 1, -1, 1, 1, 1, opened);
            x.drain();
            Due.row("empty", Due.place(x, 0), 0, -1, 0, 0, 0, opened);
        }
        Due.row("never opened", Due.place(x, 7), 0, -1, 0, 0, 0, 0);
    }

    /** Promise 17: "NONE if it does not wait", "0 if it does not": never asked, gave up, got one. */
    private static void ownerWithNothing() {
        PoolTurns x = new PoolTurns();
        x.set(0, 1);
        Due.play(x, "a0a1a2+4");
        x.giveUp(1);
        x.give(0);
        Due.row("never asked", Due.owner(x, 7), 1, 0, -1, 0, 0, 0, 0);
        Due.row("gave up", Due.owner(x, 1), 1, 0, -1, 0, 0, 1, 0);
        Due.row("got one", Due.owner(x, 2), 1, 1, -1, 0, 1, 0, 4);
        Due.row("gave back", Due.owner(x, 0), 1, 0, -1, 0, 1, 0, 0);
    }

    /** Promise 18: counts with all eight places and owners in them. */
    private static void countsAtTheirGreatest() {
        PoolTurns x = new PoolTurns();
        x.set(0, 8);
        x.set(1, 1);
        Due.play(x, "a0a1a2a3a4a5a6a7s0s1s2s3s4s5s6s7a0a1a2a3a4a5");
        Due.play(x, "a6a7");
        Due.row("eight of each", Due.counts(x), 0, 8, 0, 8, 8, 8, 8, 0, 0, 0, 0, 0, 8, 4);
        Due.play(x, "v0v1v2v3v4v5v6v7+9+1");
        Due.row("none of each", Due.counts(x), 10, 0, 0, 0, 0, 0, 8, 8, 0, 0, 8, 0, 8, 5);
    }

    /** "if what is not 0 to 5" and its like: just outside, and far outside. */
    private static void noSuchProperty() {
        PoolTurns x = new PoolTurns();
        x.ask(0);
        for (int far : new int[] {Integer.MIN_VALUE, -1, 100, Integer.MAX_VALUE}) {
            Due.refused(x, "place(0, " + far + ")", ARGUMENT, () -> x.place(0, far));
            Due.refused(x, "owner(0, " + far + ")", ARGUMENT, () -> x.owner(0, far));
            Due.refused(x, "count(" + far + ")", ARGUMENT, () -> x.count(far));
            Due.refused(x, "ifAsked(0, " + far + ")", ARGUMENT, () -> x.ifAsked(0, far));
            Due.refused(x, "ifPassed(0, " + far + ")", ARGUMENT, () -> x.ifPassed(0, far));
        }
        Due.refused(x, "place(7, 6)", ARGUMENT, () -> x.place(7, 6));
        Due.refused(x, "owner(7, 7)", ARGUMENT, () -> x.owner(7, 7));
        Due.refused(x, "count(14)", ARGUMENT, () -> x.count(14));
        Due.refused(x, "ifAsked(7, 3)", ARGUMENT, () -> x.ifAsked(7, 3));
        Due.refused(x, "ifPassed(200, 4)", ARGUMENT, () -> x.ifPassed(200, 4));
    }

    /** Promise 20: "NONE if it would wait, or cannot ask", "(0 for 1 and 2 if it cannot ask)". */
    private static void ifAskedAtTheLimits() {
        PoolTurns x = new PoolTurns();
        x.set(1, 1);
        Due.play(x, "a0a1s1g1v2");
        asked(x, 0, -1, 0, 0);
        asked(x, 1, 1, 1, 1);
        asked(x, 2, -1, 0, 0);
        x.ask(0);
        asked(x, 0, -1, 0, 0);
        asked(x, 7, 1, 1, 1);
        Due.equal("nothing was checked", x.count(11), 0);
        Due.equal("as it is then", x.ask(7), 1);
        Due.equal("closed", x.count(7), 1);

        PoolTurns y = new PoolTurns();
        y.set(0, 8);
        Due.play(y, "a0a1a2a3a4a5a6a7s0s1s2s3s4s5s6s7g0g1g2g3g4g5g6g7");
        asked(y, 3, 0, 1, 8);
        y.set(0, 1);
        asked(y, 3, 0, 1, 8);
        y.set(4, 0);
        asked(y, 3, 0, 0, 0);
    }

    private static void asked(PoolTurns x, int owner, int place, int opened, int closed) {
        long[] got = {x.ifAsked(owner, 0), x.ifAsked(owner, 1), x.ifAsked(owner, 2)};
        Due.row("ifAsked(" + owner + ")", got, place, opened, closed);
    }

    /** Promise 21: "units: 0": nothing happens in no time, also if something is due in the next unit. */
    private static void ifPassedOfNoTime() {
        PoolTurns x = new PoolTurns();
        x.set(0, 3);
        x.set(2, 0);
        Due.play(x, "a0a0a1s2v1a0+4g0a2a3a4v0");
        x.set(5, 1);
        x.set(8, 1);
        passed(x, 0, 0, 0, 3, 3);
        passed(x, 1, 3, 3, 0, 0);
        Due.equal("so it is", x.pass(1), 3);
        Due.equal("closed", x.count(7), 3);
        PoolTurns y = new PoolTurns();
        y.set(6, 1);
        y.set(2, 0);
        Due.play(y, "a0a1s0g0g1");
        y.set(7, 1);
        passed(y, 0, 0, 0, 2, 0);
        passed(y, 1, 0, 2, 0, 0);
    }

    private static void passed(PoolTurns x, int units, int givingUp, int closed, int connections, int waiters) {
        long[] got = {x.ifPassed(units, 0), x.ifPassed(units, 1), x.ifPassed(units, 2), x.ifPassed(units, 3)};
        Due.row("ifPassed(" + units + ")", got, givingUp, closed, connections, waiters);
    }

    /** Promise 21: "units: 0 to 200": what comes latest comes exactly in its unit, and stays told up to 200. */
    private static void ifPassedOf200() {
        PoolTurns x = new PoolTurns();
        x.set(0, 3);
        x.set(2, 0);
        x.set(5, 99);
        x.set(7, 99);
        x.set(8, 99);
        // a lease ends 98 units from then on, owner 3 gets that place, and one unit later owner 0 gives up
        Due.play(x, "a0a0a1g2a2v2+1a0a3");
        passed(x, 0, 0, 0, 3, 2);
        passed(x, 97, 0, 0, 3, 2);
        passed(x, 98, 0, 1, 3, 1);
        passed(x, 99, 1, 1, 3, 0);
        passed(x, 200, 1, 1, 3, 0);
        Due.equal("so it is in 200", x.pass(99) + x.pass(99) + x.pass(2), 1);
        Due.row("closed, opened again", Due.place(x, 2), 2, 3, 0, 1, 102, 2);

        PoolTurns y = new PoolTurns();
        y.set(2, 0);
        y.set(7, 99);
        Due.play(y, "+1a0g0");
        passed(y, 98, 0, 0, 1, 0);
        passed(y, 99, 0, 1, 0, 0);
        passed(y, 200, 0, 1, 0, 0);

        PoolTurns z = new PoolTurns();
        z.set(6, 99);
        z.set(2, 8);
        Due.play(z, "a0s0g0");
        passed(z, 98, 0, 0, 1, 0);
        passed(z, 99, 0, 1, 0, 0);
        passed(z, 200, 0, 1, 0, 0);
    }

    private static void ifPassedOfWrongOnes() {
        PoolTurns x = new PoolTurns();
        for (int units : new int[] {Integer.MIN_VALUE, -1, 201, Integer.MAX_VALUE}) {
            Due.refused(x, "ifPassed(" + units + ", 0)", ARGUMENT, () -> x.ifPassed(units, 0));
            Due.refused(x, "ifPassed(" + units + ", 4)", ARGUMENT, () -> x.ifPassed(units, 4));
        }
    }

    /** Promise 22: "NONE if it does not wait, or gives up ahead of that": one unit at least, all of eight waiters. */
    private static void waitsForOne() {
        PoolTurns x = new PoolTurns();
        x.set(0, 1);
        Due.play(x, "a0+9v0a1a2");
        Due.equal("the next unit", x.waitsFor(1), 1);
        Due.equal("the lease of a sound owner does not end", x.waitsFor(2), -1);
        Due.equal("who vanished", x.waitsFor(0), -1);
        Due.equal("who never asked", x.waitsFor(7), -1);
        x.set(8, 1);
        Due.equal("gives up in that unit", x.waitsFor(1), -1);

        PoolTurns y = new PoolTurns();
        y.set(0, 7);
        y.set(1, 7);
        Due.play(y, "a0a0a0a0a0a0a0a1a2a3a4a5a6a7v0+3");
        for (int owner = 1; owner < 8; owner++) {
            Due.equal("all in the same unit", y.waitsFor(owner), 7);
        }
    }

    /** Promise 22: what waits at the end of time is told as if time went on. */
    private static void waitsForAt9999() {
        PoolTurns x = new PoolTurns();
        x.set(0, 1);
        Due.pass(x, 9999);
        Due.play(x, "a0a1v0");
        Due.refused(x, "pass(1)", STATE, () -> x.pass(1));
        Due.equal("waitsFor", x.waitsFor(1), 10);
        passed(x, 9, 0, 0, 1, 1);
        passed(x, 10, 0, 1, 1, 0);
    }

    /** Promise 23: "of several the lowest", with all eight owners in it. */
    private static void blockerOfEight() {
        PoolTurns x = new PoolTurns();
        x.set(0, 8);
        Due.play(x, "a7a6a5a4a3a2a1a0");
        Due.equal("nobody waits", x.blocker(), -1);
        x.ask(7);
        Due.equal("one each", x.blocker(), 0);
        x.give(7);
        Due.equal("nobody waits again", x.blocker(), -1);
        x.ask(6);
        Due.equal("the last one has two", x.blocker(), 7);
    }

    /** Promise 24: "an owner who got any": those who got none do not count, also if they wait. */
    private static void fairnessOfWhoGotNone() {
        PoolTurns x = new PoolTurns();
        x.set(0, 1);
        bits("nobody", x.fairness(), 1.0);
        Due.play(x, "a7a0a1");
        bits("one alone", x.fairness(), 1.0);
        Due.play(x, "g0g0g0a7g0a7");
        bits("1 of 3", x.fairness(), 1.0 / 3.0);
        x.undo();
        bits("1 of 1", x.fairness(), 1.0);
        x.undo();
        x.undo();
        bits("nobody again", x.fairness(), 1.0);
    }

    private static void bits(String what, double got, double want) {
        Due.equal(what, Double.doubleToLongBits(got), Double.doubleToLongBits(want));
    }

    /** Promise 25: "the length of the buffer and each of its character codes": none, and sixty. */
    private static void digestOfFullBuffer() {
        PoolTurns x = new PoolTurns();
        long empty = x.digest();
        long head = empty;
        PoolTurns y = new PoolTurns();
        for (int length = 1; length <= 60; length++) {
            y.append(32 + length);
        }
        // an empty buffer adds but a 0, so the hash of a full one goes on from the same start
        long hash = head + 60;
        for (int length = 1; length <= 60; length++) {
            hash = 31 * hash + 32 + length;
        }
        Due.equal("sixty codes", y.digest(), hash);
        y.clearBuffer();
        Due.equal("none again", y.digest(), empty);
    }

    /** Promise 25: all that is in the list, where the limits are. */
    private static void digestAtTheEndOfTime() {
        PoolTurns x = new PoolTurns();
        PlainPool plain = new PlainPool();
        for (int round = 0; round < 101; round++) {
            x.pass(99);
            plain.pass(99);
        }
        String text = "a0a0a0a1a1a1a2v1s0g0v3";
        Due.write(x, text);
        text.chars().forEach(plain::append);
        Due.equal("run", x.run(), plain.run());
        Due.equal("digest", x.digest(), plain.digest());
    }
}
