/** The boundary cases that the sentences under "Terms" name, sentence by sentence; the quotes are the document's. */
public final class TermsEdgesTest {
    private static final Class<IllegalStateException> STATE = IllegalStateException.class;
    private static final Class<IllegalArgumentException> ARGUMENT = IllegalArgumentException.class;

    public static void main(String[] args) {
        eightPlacesAreFull();
        soundWhenOpened();
        nobodySeesThatButACheck();
        usedSinceItWasOpened();
        idleAndLentSince();
        theFirstThatIsNotClosed();
        lowestEmptyPlace();
        fewerThanSetting0();
        ownerMayNotHaveOneMore();
        waitsBehindAllOthers();
        waitsOnceAtMost();
        fewerThanSetting1();
        leaseCountsFromLending();
        leaseShortestAndLongest();
        keptOnesAreClosedOtherwise();
        checksByTheTime();
        idleExactlyAsLong();
        closedByAscendingPlaces();
        moreThanSetting2();
        waitsShortestAndLongest();
        whoVanishes();
        sixtyCharacters();
        savedAlsoWithoutAChange();
        notMarkedUndoable();
        refusedCallsSaveNothing();
        savedStatesGoRound();
        countedSoFarIsRestored();
        Due.end();
    }

    /** "There are 8 places": also if one owner has them all, and there is no ninth. */
    private static void eightPlacesAreFull() {
        PoolTurns x = new PoolTurns();
        x.set(0, 8);
        x.set(1, 8);
        for (int place = 0; place < 8; place++) {
            Due.equal("ask for place " + place, x.ask(5), place);
        }
        Due.equal("no ninth for the owner", x.ask(5), -1);
        Due.equal("nor for another", x.ask(0), -1);
        Due.row("all lent to it", Due.places(x, 1), 5, 5, 5, 5, 5, 5, 5, 5);
        Due.equal("eight lent to it", x.owner(5, 1), 8);
    }

    /** "A connection is sound, when it is opened": in whichever way the sick one before it was closed. */
    private static void soundWhenOpened() {
        String[] closings = {"g0+5", "g0", "v0+9+1"};
        for (int way = 0; way < 3; way++) {
            PoolTurns x = new PoolTurns();
            Due.play(x, "a0s0" + closings[way]);
            if (way == 1) {
                x.drain();
            }
            Due.row("closed in way " + way, Due.place(x, 0), 0, -1, 0, 0, 0, 1);
            Due.equal("none is sick", x.count(4), 0);
            Due.equal("asked again", x.ask(1), 0);
            Due.row("opened again in way " + way, Due.place(x, 0), 2, 1, 0, 1, 0, 2);
        }
    }

    /** "nobody sees that but a check": and only idle ones are checked. */
    private static void nobodySeesThatButACheck() {
        PoolTurns x = new PoolTurns();
        x.set(6, 1);
        x.set(5, 99);
        Due.play(x, "a0a1s0s1v1+9+9");
        Due.equal("check of lent ones", x.check(), 0);
        Due.row("both are lent", Due.places(x, 0), 2, 2, 0, 0, 0, 0, 0, 0);
        Due.equal("none was checked", x.count(11), 0);
        Due.equal("both are sick", x.count(4), 2);
        PoolTurns y = new PoolTurns();
        y.set(6, 0);
        Due.play(y, "a0s0g0+9+9");
        Due.row("idle and sick, unseen", Due.place(y, 0), 1, -1, 1, 1, 18, 1);
    }

    /** "It has been used as often as it was lent since it was opened." */
    private static void usedSinceItWasOpened() {
        PoolTurns x = new PoolTurns();
        Due.play(x, "a0g0a1g0a2");
        Due.equal("lent three times", x.place(0, 3), 3);
        Due.play(x, "s0g0a3");
        Due.equal("opened anew, lent once", x.place(0, 3), 1);
    }

    /** "idle since the time at which it was opened or given back last", "lent since the time at which it was lent" */
    private static void idleAndLentSince() {
        PoolTurns x = new PoolTurns();
        x.set(0, 1);
        Due.play(x, "a0+3");
        Due.equal("lent for", x.place(0, 4), 3);
        x.give(0);
        Due.equal("idle from now on", x.place(0, 4), 0);
        x.pass(2);
        Due.equal("idle for", x.place(0, 4), 2);
        x.ask(0);
        Due.equal("lent from now on", x.place(0, 4), 0);
        Due.play(x, "a1+4g0");
        Due.equal("lent to the waiter from now on", x.place(0, 4), 0);
    }

    /** "each is checked when its turn comes, and closed if it is sick; the first one that is not closed is lent" */
    private static void theFirstThatIsNotClosed() {
        for (int order = 0; order < 2; order++) {
            PoolTurns x = new PoolTurns();
            x.set(3, order);
            Due.play(x, "a0a1a2s0s2g0+1g1+1g2");
            Due.equal("the middle one in order " + order, x.ask(3), 1);
            long[] due = order == 0 ? new long[] {1, 2, 0} : new long[] {0, 2, 1};
            for (int place = 0; place < 3; place++) {
                Due.equal("order " + order + ", place " + place, x.place(place, 0), due[place]);
            }
            Due.equal("those behind it are not checked", x.count(11), 2);
            Due.equal("one is sick still", x.count(4), 1);
        }
    }

    /** "one is opened at the lowest empty place": with full places below and above it. */
    private static void lowestEmptyPlace() {
        PoolTurns x = new PoolTurns();
        x.set(0, 8);
        Due.play(x, "a0a1a2a3s2s1g2g1");
        x.check();
        Due.equal("first gap", x.ask(4), 1);
        Due.equal("second gap", x.ask(5), 2);
        Due.equal("behind them all", x.ask(6), 4);
    }

    /** "there are fewer than setting 0 connections": exactly as many are too many, for each number. */
    private static void fewerThanSetting0() {
        for (int most = 1; most <= 8; most++) {
            PoolTurns x = new PoolTurns();
            x.set(0, most);
            x.set(1, 8);
            for (int place = 0; place < most; place++) {
                Due.equal("opened, most " + most, x.ask(0), place);
            }
            Due.equal("waits, most " + most, x.ask(0), -1);
            Due.equal("connections, most " + most, x.count(1), most);
        }
        PoolTurns y = new PoolTurns();
        Due.play(y, "a0a1a2s2g2");
        y.set(0, 3);
        Due.equal("a sick one is closed, so that there is room", y.ask(3), 2);
        Due.equal("opened there", y.place(2, 5), 2);
    }

    /** "or the owner may not have one more": idle ones are not even checked for it. */
    private static void ownerMayNotHaveOneMore() {
        PoolTurns x = new PoolTurns();
        Due.play(x, "a0a0a1a2s2g2g3");
        Due.equal("waits, though two are idle", x.ask(0), -1);
        Due.row("places", Due.places(x, 0), 2, 2, 1, 1, 0, 0, 0, 0);
        Due.equal("no check", x.count(11), 0);
        Due.equal("nothing is closed", x.count(7), 0);
        Due.equal("waits on while time passes", x.pass(1), 0);
        Due.equal("first waiter", x.owner(0, 2), 0);
        Due.equal("who may have one more gets one by the same call", x.ask(1), 3);
    }

    /** "the owner waits, behind all others" */
    private static void waitsBehindAllOthers() {
        PoolTurns x = new PoolTurns();
        x.set(1, 1);
        Due.play(x, "a6a2a6");
        Due.equal("may not have one more either", x.ask(2), -1);
        Due.equal("behind the other", x.owner(2, 2), 1);
        Due.equal("may have one more", x.ask(7), 2);
        Due.equal("did not wait", x.owner(7, 6), 0);
        Due.equal("two waiters still", x.count(5), 2);
        x.set(1, 2);
        Due.equal("the first one got the last place", x.place(3, 1), 6);
        Due.equal("the second one is first now", x.owner(2, 2), 0);
    }

    /** "An owner can wait once at most." */
    private static void waitsOnceAtMost() {
        PoolTurns x = new PoolTurns();
        x.set(0, 1);
        x.set(8, 2);
        Due.play(x, "a0a0");
        Due.refused(x, "waits already, having one", STATE, () -> x.ask(0));
        Due.equal("one waiter", x.count(5), 1);
        Due.equal("gives up", x.pass(2), 1);
        Due.equal("asks again", x.ask(0), -1);
        Due.equal("gets it from itself", x.give(0), 0);
        Due.equal("asks again", x.ask(0), -1);
        Due.equal("one waiter again", x.count(5), 1);
    }

    /** "An owner may have one more if it has fewer than setting 1 connections": each number, and one that is lowered. */
    private static void fewerThanSetting1() {
        for (int most = 1; most <= 7; most++) {
            PoolTurns x = new PoolTurns();
            x.set(0, 8);
            x.set(1, most);
            for (int place = 0; place < most; place++) {
                Due.equal("may have, most " + most, x.ask(3), place);
            }
            Due.equal("may not have, most " + most, x.ask(3), -1);
            Due.equal("another may", x.ask(4), most);
        }
        PoolTurns y = new PoolTurns();
        y.set(1, 4);
        Due.play(y, "a0a0a0a0");
        y.set(1, 2);
        Due.play(y, "a0g0g1");
        Due.equal("two of two", y.owner(0, 1), 2);
        Due.equal("waits still", y.owner(0, 2), 0);
        y.give(2);
        Due.equal("had one of two, got one", y.owner(0, 1), 2);
        Due.equal("does not wait", y.owner(0, 2), -1);
    }

    /** "lent for at least setting 5 units": counted from the lending, not from the vanishing. */
    private static void leaseCountsFromLending() {
        PoolTurns x = new PoolTurns();
        Due.play(x, "a0+9+9v0");
        Due.equal("vanishing alone closes nothing", x.count(1), 1);
        Due.play(x, "c0+9v0+1");
        Due.equal("closed in the first unit", x.count(10), 1);
        PoolTurns y = new PoolTurns();
        Due.play(y, "a0v0+9");
        y.set(5, 1);
        Due.equal("a shorter lease alone closes nothing", y.count(1), 1);
        y.set(5, 11);
        Due.play(y, "+1");
        Due.equal("10 are not 11", y.count(1), 1);
        Due.play(y, "+1");
        Due.equal("11 are", y.count(1), 0);
    }

    private static void leaseShortestAndLongest() {
        PoolTurns x = new PoolTurns();
        x.set(5, 1);
        Due.play(x, "a0v0");
        Due.equal("lent for 0", x.count(1), 1);
        Due.play(x, "+1");
        Due.equal("lent for 1", x.count(1), 0);
        PoolTurns y = new PoolTurns();
        y.set(5, 99);
        Due.play(y, "a0v0");
        y.pass(98);
        Due.equal("lent for 98", y.count(1), 1);
        y.pass(1);
        Due.equal("lent for 99", y.count(1), 0);
    }

    /** Setting 2 is named for those alone that are idle for too long. */
    private static void keptOnesAreClosedOtherwise() {
        PoolTurns x = new PoolTurns();
        x.set(2, 8);
        Due.play(x, "a0a1a2v0s1g1g2+5");
        Due.equal("a sick one", x.count(8), 1);
        Due.play(x, "+5");
        Due.equal("a lease", x.count(10), 1);
        Due.equal("an idle one, by drain", x.drain(), 1);
        Due.equal("none is left", x.count(1), 0);
    }

    /** "if setting 6 is above 0 and the time is divisible by it": the time, not the units since something. */
    private static void checksByTheTime() {
        PoolTurns x = new PoolTurns();
        Due.play(x, "a0g0+3");
        x.set(6, 1);
        x.set(7, 99);
        Due.equal("none yet", x.count(11), 0);
        x.pass(2);
        Due.equal("each unit", x.count(11), 2);
        x.set(6, 99);
        x.pass(93);
        Due.equal("not at 98", x.count(11), 2);
        x.pass(1);
        Due.equal("at 99", x.count(11), 3);
        x.set(6, 0);
        x.pass(1);
        Due.equal("never", x.count(11), 3);
        x.set(6, 2);
        x.pass(5);
        Due.equal("at 102 and 104", x.count(11), 5);
    }

    /** "idle for at least setting 7 units" */
    private static void idleExactlyAsLong() {
        PoolTurns x = new PoolTurns();
        x.set(2, 0);
        Due.play(x, "a0g0");
        x.pass(19);
        Due.equal("idle for 19", x.count(1), 1);
        x.pass(1);
        Due.equal("idle for 20", x.count(9), 1);
        Due.play(x, "a0g0+9");
        x.set(7, 1);
        Due.equal("a smaller number alone closes nothing", x.count(1), 1);
        Due.play(x, "+1");
        Due.equal("time does", x.count(9), 2);
        x.set(7, 99);
        Due.play(x, "a0g0");
        x.pass(98);
        Due.equal("idle for 98", x.count(1), 1);
        x.pass(1);
        Due.equal("idle for 99", x.count(9), 3);
    }

    /** "are closed, by ascending places": also if one at a higher place has been idle for longer. */
    private static void closedByAscendingPlaces() {
        PoolTurns x = new PoolTurns();
        x.set(7, 99);
        Due.play(x, "a0a1a2g2+1g1+1g0+5");
        x.set(7, 3);
        x.set(2, 2);
        x.pass(1);
        Due.row("one of three", Due.places(x, 0), 0, 1, 1, 0, 0, 0, 0, 0);
        x.set(2, 1);
        x.pass(1);
        Due.row("one of two", Due.places(x, 0), 0, 0, 1, 0, 0, 0, 0, 0);
    }

    /** "as long as there are more than setting 2 connections": none, some, and all that there can be. */
    private static void moreThanSetting2() {
        for (int kept = 0; kept <= 8; kept++) {
            PoolTurns x = new PoolTurns();
            x.set(0, 8);
            x.set(2, kept);
            Due.play(x, "a0a1a2a3a4a5a6a7g0g1g2g3g4g5g6g7");
            x.pass(99);
            Due.equal("connections, kept " + kept, x.count(1), kept);
            Due.equal("closed, kept " + kept, x.count(9), 8 - kept);
        }
        PoolTurns y = new PoolTurns();
        y.set(2, 0);
        Due.play(y, "a0a1a2");
        y.pass(99);
        Due.equal("lent ones are not closed", y.count(1), 3);
        y.set(2, 2);
        Due.play(y, "g0");
        y.pass(99);
        Due.equal("two lent ones are as many as are kept", y.count(1), 2);
    }

    /** "waiters who have waited for at least setting 8 units give up" */
    private static void waitsShortestAndLongest() {
        PoolTurns x = new PoolTurns();
        x.set(0, 1);
        x.set(8, 1);
        Due.play(x, "a0a1");
        Due.equal("waits 0", x.count(5), 1);
        Due.equal("waits 1", x.pass(1), 1);
        x.set(8, 99);
        Due.play(x, "a1+1a2");
        Due.equal("waits 98", x.pass(97), 0);
        Due.equal("waits 99", x.pass(1), 1);
        Due.equal("the later one waits still", x.owner(2, 3), 98);
        Due.equal("and is the first one", x.owner(2, 2), 0);
        Due.equal("waits 99, too", x.pass(1), 1);
    }

    /** "An owner who vanishes does not wait any more, and cannot ask or give back; its connections stay lent." */
    private static void whoVanishes() {
        PoolTurns x = new PoolTurns();
        x.set(0, 2);
        Due.play(x, "a0a1a2a0a3v0");
        Due.row("not waiting", Due.owner(x, 0), 0, 1, -1, 0, 1, 0, 0);
        Due.equal("ahead of it nothing moves", x.owner(2, 2), 0);
        Due.equal("behind it they move up", x.owner(3, 2), 1);
        Due.refused(x, "cannot ask", STATE, () -> x.ask(0));
        Due.refused(x, "cannot give back", STATE, () -> x.give(0));
        Due.refused(x, "does not wait", STATE, () -> x.giveUp(0));
        Due.equal("stays lent", x.place(0, 1), 0);
        x.appear(0, true);
        Due.equal("can ask again, behind the others", x.ask(0), -1);
        Due.equal("third", x.owner(0, 2), 2);
        Due.equal("can give back again", x.give(0), 2);
    }

    /** "The buffer has at most 60 characters": errors at its end, and one character too few. */
    private static void sixtyCharacters() {
        String most = "+1".repeat(29);
        PoolTurns x = new PoolTurns();
        Due.write(x, most + "a");
        Due.equal("59 characters", x.firstError(), 59);
        Due.refused(x, "59 are not complete", ARGUMENT, () -> x.run());
        x.append('8');
        Due.equal("the last one of 60", x.firstError(), 59);
        Due.refused(x, "an error at the end", ARGUMENT, () -> x.run());
        Due.refused(x, "the 61st", STATE, () -> x.append('0'));
        Due.equal("cleared", x.clearBuffer(), 60);
        Due.write(x, most + "x");
        Due.equal("the one before it", x.firstError(), 58);
        x.clearBuffer();
        Due.write(x, most + "a0");
        Due.equal("no error", x.firstError(), 60);
        Due.equal("thirty calls", x.run(), 30);
        Due.equal("sixty again", x.append('a'), 1);
    }

    /** "saves the state from before it (also if it changes nothing)" */
    private static void savedAlsoWithoutAChange() {
        PoolTurns x = new PoolTurns();
        Due.play(x, "a0s0");
        Due.equal("sick already", x.sicken(0), 0);
        Due.equal("saved", x.count(13), 2);
        Due.equal("nothing to check", x.check(), 0);
        Due.equal("saved", x.count(13), 3);
        Due.equal("nothing to drain", x.drain(), 0);
        Due.equal("saved", x.count(13), 4);
        Due.equal("the same value", x.set(3, 0), 0);
        Due.equal("saved", x.count(13), 5);
        Due.write(x, "g7");
        Due.equal("no call is made", x.run(), 0);
        Due.equal("saved", x.count(13), 6);
        for (int left = 5; left >= 1; left--) {
            Due.equal("undo of nothing", x.undo(), left);
            Due.equal("lent still", x.place(0, 0), 2);
        }
        Due.equal("undo of the text", x.undo(), 0);
        Due.equal("nothing is there", x.count(1), 0);
    }

    /** "Each method that is marked "undoable"": the others save nothing. */
    private static void notMarkedUndoable() {
        PoolTurns x = new PoolTurns();
        x.set(0, 1);
        Due.play(x, "a0a1");
        x.append('a');
        x.firstError();
        x.clearBuffer();
        for (int one = 0; one < 8; one++) {
            Due.place(x, one);
            Due.owner(x, one);
            x.waitsFor(one);
            x.ifAsked(one, one % 3);
            x.ifPassed(25 * one, one % 4);
        }
        Due.counts(x);
        Due.settings(x);
        x.blocker();
        x.fairness();
        x.digest();
        Due.equal("saved by the text and the setting alone", x.count(13), 2);
        Due.equal("undo", x.undo(), 1);
        Due.equal("undo saves nothing either", x.count(13), 1);
        Due.equal("of the text", x.count(6), 0);
    }

    /** "and does not throw an exception": six states are saved, and none is dropped by refused calls. */
    private static void refusedCallsSaveNothing() {
        PoolTurns x = new PoolTurns();
        for (int value = 2; value <= 8; value++) {
            x.set(0, value);
        }
        Due.refused(x, "give", STATE, () -> x.give(0));
        Due.refused(x, "giveUp", STATE, () -> x.giveUp(0));
        Due.refused(x, "appear", STATE, () -> x.appear(0, true));
        Due.refused(x, "sicken", STATE, () -> x.sicken(0));
        Due.refused(x, "set", ARGUMENT, () -> x.set(0, 9));
        Due.refused(x, "pass", ARGUMENT, () -> x.pass(0));
        Due.refused(x, "run", ARGUMENT, () -> x.run());
        Due.refused(x, "ask", IndexOutOfBoundsException.class, () -> x.ask(8));
        for (int left = 5; left >= 0; left--) {
            Due.equal("undo", x.undo(), left);
            Due.equal("the setting from before", x.setting(0), 2 + left);
        }
        Due.refused(x, "undo of none", STATE, () -> x.undo());
    }

    /** "At most 6 states are saved; the oldest one is dropped first": also when states were dropped by undo meanwhile. */
    private static void savedStatesGoRound() {
        for (int back = 0; back <= 6; back++) {
            PoolTurns x = new PoolTurns();
            for (int calls = 0; calls < 9; calls++) {
                x.pass(10);
            }
            for (int left = 5; left >= 6 - back; left--) {
                Due.equal("undo", x.undo(), left);
            }
            int time = 90 - 10 * back;
            for (int calls = 1; calls <= 8; calls++) {
                x.pass(1);
                Due.equal("saved", x.count(13), Math.min(6, 6 - back + calls));
            }
            for (int left = 5; left >= 0; left--) {
                Due.equal("undo once more", x.undo(), left);
                Due.equal("time", x.count(0), time + 2 + left);
            }
            Due.refused(x, "undo of none", STATE, () -> x.undo());
        }
    }

    /** "all, also what is counted so far" */
    private static void countedSoFarIsRestored() {
        PoolTurns x = new PoolTurns();
        x.set(0, 2);
        x.set(2, 0);
        x.set(8, 30);
        Due.play(x, "a0a1a2a3+1s0");
        long[] before = Due.state(x);
        long digest = x.digest();
        Due.play(x, "g0+1v1+9+9g0a0+9+9g0a4v4+9+2g1+9+9+2");
        Due.row("counted meanwhile", Due.counts(x), 69, 0, 0, 0, 0, 0, 4, 4, 1, 1, 2, 7, 6, 5);
        Due.equal("undo", x.undo(), 4);
        Due.row("all as before", Due.state(x), before);
        Due.equal("digest as before", x.digest(), digest);
    }
}
