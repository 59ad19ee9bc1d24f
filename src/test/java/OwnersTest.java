/** Promises 1 to 5: a new object, ask, give, giveUp, appear. */
public final class OwnersTest {
    private static final Class<IndexOutOfBoundsException> INDEX = IndexOutOfBoundsException.class;
    private static final Class<IllegalStateException> STATE = IllegalStateException.class;

    public static void main(String[] args) {
        newObject();
        askLendsAndOpens();
        askTakesIdleOnesInTurn();
        askChecksWhatItLends();
        askChecksAllEight();
        askWaits();
        eightWait();
        askBehindOneWhoMayHaveNoMore();
        askRefuses();
        give();
        giveServesOthers();
        giveOfSickOneToWaiter();
        giveRefuses();
        giveUp();
        appear();
        appearRefuses();
        Due.end();
    }

    private static void newObject() {
        PoolTurns x = new PoolTurns();
        Due.equal("NONE", PoolTurns.NONE, -1);
        Due.row("counts of a new one", Due.counts(x), 0, 0, 0, 0, 0, 0, 0, 0, 0, 0, 0, 0, 0, 0);
        Due.row("settings of a new one", Due.settings(x), 4, 2, 1, 0, 1, 10, 5, 20, 15);
        for (int one = 0; one < 8; one++) {
            Due.row("place of a new one", Due.place(x, one), 0, -1, 0, 0, 0, 0);
            Due.row("owner of a new one", Due.owner(x, one), 1, 0, -1, 0, 0, 0, 0);
        }
        Due.equal("clearBuffer of a new one", x.clearBuffer(), 0);
    }

    private static void askLendsAndOpens() {
        PoolTurns x = new PoolTurns();
        Due.equal("first ask", x.ask(7), 0);
        Due.equal("second ask", x.ask(7), 1);
        Due.equal("ask of another", x.ask(0), 2);
        Due.row("lent place", Due.place(x, 0), 2, 7, 0, 1, 0, 1);
        Due.row("owner of two", Due.owner(x, 7), 1, 2, -1, 0, 2, 0, 0);
        Due.row("counts", Due.counts(x), 0, 3, 0, 3, 0, 0, 3, 0, 0, 0, 0, 0, 3, 3);
    }

    private static void askTakesIdleOnesInTurn() {
        for (int order = 0; order < 2; order++) {
            PoolTurns x = new PoolTurns();
            x.set(3, order);
            Due.play(x, "a0a1a2a3g2+1g0g3+1g1");
            long[] latestFirst = {1, 0, 3, 2};
            long[] earliestFirst = {2, 0, 3, 1};
            long[] due = order == 0 ? latestFirst : earliestFirst;
            for (int at = 0; at < 4; at++) {
                Due.equal("order " + order + ", ask " + at, x.ask(4 + at), due[at]);
            }
            Due.equal("idle ones go ahead of new ones", x.count(6), 4);
            Due.equal("each is checked as it is lent", x.count(11), 4);
        }
    }

    private static void askChecksWhatItLends() {
        PoolTurns x = new PoolTurns();
        Due.play(x, "a0a1a2s0s2g2+1g1+1g0");
        Due.equal("a sick one is closed, a sound one lent", x.ask(3), 1);
        Due.row("counts", Due.counts(x), 2, 2, 1, 1, 1, 0, 3, 1, 1, 0, 0, 2, 4, 2);
        Due.equal("the other sick one too, one is opened at the lowest place", x.ask(4), 0);
        Due.row("place opened again", Due.place(x, 0), 2, 4, 0, 1, 0, 2);
        Due.row("place closed", Due.place(x, 2), 0, -1, 0, 0, 0, 1);

        PoolTurns y = new PoolTurns();
        y.set(4, 0);
        Due.play(y, "a0s0g0");
        Due.equal("without checks a sick one is lent", y.ask(1), 0);
        Due.row("sick, used twice", Due.place(y, 0), 2, 1, 1, 2, 0, 1);
        Due.equal("no check", y.count(11), 0);
    }

    private static void askChecksAllEight() {
        PoolTurns x = new PoolTurns();
        x.set(0, 8);
        Due.play(x, "a0a1a2a3a4a5a6a7s0s1s2s3s4s5s6s7g0g1g2g3g4g5g6g7");
        Due.equal("the lowest place, opened anew", x.ask(5), 0);
        Due.row("counts", Due.counts(x), 0, 1, 0, 1, 0, 0, 9, 8, 8, 0, 0, 8, 9, 3);
    }

    private static void eightWait() {
        PoolTurns x = new PoolTurns();
        x.set(0, 1);
        Due.play(x, "a3a7a6a5a4a3a2a1a0");
        Due.equal("all of them", x.count(5), 8);
        Due.equal("the last one", x.owner(0, 2), 7);
        Due.equal("the first one gets it", x.give(0), 7);
        for (int at = 0; at < 7; at++) {
            Due.equal("moved up", x.owner(6 - at, 2), at);
        }
        x.set(0, 8);
        Due.row("in their turns", Due.places(x, 1), 7, 6, 5, 4, 3, 2, 1, 0);
    }

    private static void askWaits() {
        PoolTurns x = new PoolTurns();
        x.set(0, 1);
        Due.equal("the only one", x.ask(0), 0);
        Due.equal("none left", x.ask(1), -1);
        Due.equal("none left for the owner itself", x.ask(0), -1);
        Due.equal("first waiter", x.owner(1, 2), 0);
        Due.equal("second waiter", x.owner(0, 2), 1);
        Due.equal("waiters", x.count(5), 2);

        PoolTurns y = new PoolTurns();
        Due.play(y, "a0a1g0g1");
        y.set(0, 1);
        Due.play(y, "a2a3s0s1");
        Due.equal("more than there may be by now", y.count(1), 2);
        Due.play(y, "g0");
        Due.equal("idle, sick, and not counted as room", y.ask(4), -1);
        Due.equal("closed in the look", y.count(8), 1);
        Due.equal("checked once: 2 asks and this", y.count(11), 3);
    }

    private static void askBehindOneWhoMayHaveNoMore() {
        PoolTurns x = new PoolTurns();
        x.set(1, 1);
        Due.play(x, "a0a0");
        Due.equal("behind a waiter, got by the same call", x.ask(1), 1);
        Due.row("who got it", Due.owner(x, 1), 1, 1, -1, 0, 1, 0, 0);
        Due.equal("who may not have more waits on", x.owner(0, 2), 0);
    }

    private static void askRefuses() {
        PoolTurns x = new PoolTurns();
        x.set(0, 1);
        Due.play(x, "a0a1v2");
        Due.refused(x, "ask(-1)", INDEX, () -> x.ask(-1));
        Due.refused(x, "ask(8)", INDEX, () -> x.ask(8));
        Due.refused(x, "ask of the least", INDEX, () -> x.ask(Integer.MIN_VALUE));
        Due.refused(x, "ask of who waits", STATE, () -> x.ask(1));
        Due.refused(x, "ask of who vanished", STATE, () -> x.ask(2));
    }

    private static void give() {
        PoolTurns x = new PoolTurns();
        Due.play(x, "a0a0+3");
        Due.equal("give with no waiters", x.give(1), -1);
        Due.row("idle place", Due.place(x, 1), 1, -1, 0, 1, 0, 1);
        x.pass(2);
        Due.equal("idle since it was given back", x.place(1, 4), 2);
        Due.equal("lent since the ask", x.place(0, 4), 5);
        Due.equal("owner has one left", x.owner(0, 1), 1);
    }

    private static void giveServesOthers() {
        PoolTurns x = new PoolTurns();
        x.set(0, 2);
        Due.play(x, "a0a0a0a1a2+4");
        Due.equal("the first waiter, who has room again", x.give(0), 0);
        Due.row("waited and got", Due.owner(x, 0), 1, 2, -1, 0, 3, 0, 4);
        Due.equal("the next waiter", x.give(0), 1);
        Due.row("used three times", Due.place(x, 0), 2, 1, 0, 3, 0, 1);
        Due.equal("the last waiter", x.give(1), 2);
        Due.equal("nobody waits", x.give(1), -1);
    }

    private static void giveOfSickOneToWaiter() {
        PoolTurns x = new PoolTurns();
        x.set(0, 2);
        Due.play(x, "a0a0a1s0");
        Due.equal("a sick one is closed, and one opened there", x.give(0), 1);
        Due.row("new connection", Due.place(x, 0), 2, 1, 0, 1, 0, 2);
        x.set(0, 1);
        Due.play(x, "a2s1");
        Due.equal("closed, and no room for another", x.give(1), -1);
        Due.equal("place is empty", x.place(1, 0), 0);
        Due.equal("still waits", x.owner(2, 2), 0);
    }

    private static void giveRefuses() {
        PoolTurns x = new PoolTurns();
        Due.play(x, "a0a1g0v1");
        Due.refused(x, "give(-1)", INDEX, () -> x.give(-1));
        Due.refused(x, "give(8)", INDEX, () -> x.give(8));
        Due.refused(x, "give of idle", STATE, () -> x.give(0));
        Due.refused(x, "give of empty", STATE, () -> x.give(2));
        Due.refused(x, "give of who vanished", STATE, () -> x.give(1));
        x.appear(1, true);
        Due.equal("give of who came back", x.give(1), -1);
    }

    private static void giveUp() {
        PoolTurns x = new PoolTurns();
        x.set(0, 1);
        Due.play(x, "a0a1+2a2+3");
        Due.equal("giveUp", x.giveUp(1), 5);
        Due.row("who gave up", Due.owner(x, 1), 1, 0, -1, 0, 0, 1, 0);
        Due.equal("who moved up", x.owner(2, 2), 0);
        Due.equal("how long that one waits", x.owner(2, 3), 3);
        Due.equal("one waiter left", x.count(5), 1);
        Due.refused(x, "giveUp again", STATE, () -> x.giveUp(1));
        Due.refused(x, "giveUp(-1)", INDEX, () -> x.giveUp(-1));
        Due.refused(x, "giveUp(8)", INDEX, () -> x.giveUp(8));
        Due.equal("it can ask again", x.ask(1), -1);
        Due.equal("behind the other", x.owner(1, 2), 1);
    }

    private static void appear() {
        PoolTurns x = new PoolTurns();
        x.set(0, 3);
        Due.play(x, "a0a0a0a1a2");
        Due.equal("vanishing, two lent", x.appear(0, false), 2);
        Due.row("vanished, not waiting, not given up", Due.owner(x, 0), 0, 2, -1, 0, 2, 0, 0);
        Due.equal("who moved up", x.owner(2, 2), 0);
        Due.equal("still lent", x.count(3), 3);
        Due.equal("back, two lent", x.appear(0, true), 2);
        Due.row("back, not waiting", Due.owner(x, 0), 1, 2, -1, 0, 2, 0, 0);
        Due.equal("none lent", x.appear(5, false), 0);
    }

    private static void appearRefuses() {
        PoolTurns x = new PoolTurns();
        x.appear(3, false);
        Due.refused(x, "appear(-1)", INDEX, () -> x.appear(-1, false));
        Due.refused(x, "appear(8)", INDEX, () -> x.appear(8, true));
        Due.refused(x, "is there already", STATE, () -> x.appear(2, true));
        Due.refused(x, "vanished already", STATE, () -> x.appear(3, false));
    }
}
