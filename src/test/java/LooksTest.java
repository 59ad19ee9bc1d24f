/** Promises 16 to 19: place, owner, count, setting. */
public final class LooksTest {
    private static final Class<IndexOutOfBoundsException> INDEX = IndexOutOfBoundsException.class;
    private static final Class<IllegalArgumentException> ARGUMENT = IllegalArgumentException.class;

    public static void main(String[] args) {
        place();
        owner();
        count();
        setting();
        Due.end();
    }

    private static void place() {
        PoolTurns x = new PoolTurns();
        Due.play(x, "a6a6a5s1+2g0+1a4g2+1");
        Due.row("lent to another, used twice", Due.place(x, 0), 2, 4, 0, 2, 1, 1);
        Due.row("lent and sick", Due.place(x, 1), 2, 6, 1, 1, 4, 1);
        Due.row("idle", Due.place(x, 2), 1, -1, 0, 1, 1, 1);
        Due.row("empty", Due.place(x, 3), 0, -1, 0, 0, 0, 0);
        x.give(1);
        x.drain();
        Due.row("closed: only what was opened stays", Due.place(x, 1), 0, -1, 0, 0, 0, 1);
        x.pass(3);
        Due.row("closed, for no time", Due.place(x, 2), 0, -1, 0, 0, 0, 1);
        long before = x.digest();
        Due.place(x, 0);
        Due.equal("looks change nothing", x.digest(), before);
        Due.refused(x, "place(-1, 0)", INDEX, () -> x.place(-1, 0));
        Due.refused(x, "place(8, 0)", INDEX, () -> x.place(8, 0));
        Due.refused(x, "place(8, 6), the index first", INDEX, () -> x.place(8, 6));
        Due.refused(x, "place(0, -1)", ARGUMENT, () -> x.place(0, -1));
        Due.refused(x, "place(0, 6)", ARGUMENT, () -> x.place(0, 6));
    }

    private static void owner() {
        PoolTurns x = new PoolTurns();
        x.set(0, 2);
        Due.play(x, "a0a1a2a3+3a4+2");
        Due.row("third waiter", Due.owner(x, 4), 1, 0, 2, 2, 0, 0, 0);
        Due.row("first waiter", Due.owner(x, 2), 1, 0, 0, 5, 0, 0, 0);
        x.give(0);
        Due.row("got it", Due.owner(x, 2), 1, 1, -1, 0, 1, 0, 5);
        Due.play(x, "a2+9+1");
        Due.row("gave up after 15 units", Due.owner(x, 3), 1, 0, -1, 0, 0, 1, 0);
        Due.play(x, "g1+1g0");
        Due.row("waited twice, got two", Due.owner(x, 2), 1, 1, -1, 0, 2, 0, 5 + 11);
        x.appear(2, false);
        Due.equal("vanished", x.owner(2, 0), 0);
        Due.refused(x, "owner(-1, 0)", INDEX, () -> x.owner(-1, 0));
        Due.refused(x, "owner(8, 0)", INDEX, () -> x.owner(8, 0));
        Due.refused(x, "owner(-1, 7), the index first", INDEX, () -> x.owner(-1, 7));
        Due.refused(x, "owner(0, -1)", ARGUMENT, () -> x.owner(0, -1));
        Due.refused(x, "owner(0, 7)", ARGUMENT, () -> x.owner(0, 7));
    }

    private static void count() {
        PoolTurns x = new PoolTurns();
        x.set(5, 2);
        x.set(7, 5);
        x.set(6, 4);
        // at 2 the lease of place 0 ends; at 4 place 1 is found sick; at 7 place 2 has been idle for 5
        Due.play(x, "a0a1a2v0s1+2g1g2a3a3+2");
        Due.row("counts at 4", Due.counts(x), 4, 2, 0, 2, 0, 0, 4, 2, 1, 0, 1, 2, 5, 4);
        Due.play(x, "a4a5a6g1s0+5");
        Due.row("counts at 9", Due.counts(x), 9, 4, 0, 4, 1, 0, 6, 2, 1, 0, 1, 3, 8, 5);
        Due.play(x, "g1g2+5");
        Due.row("counts at 14", Due.counts(x), 14, 2, 0, 2, 1, 0, 6, 4, 1, 2, 1, 5, 8, 6);
        Due.refused(x, "count(-1)", ARGUMENT, () -> x.count(-1));
        Due.refused(x, "count(14)", ARGUMENT, () -> x.count(14));
        Due.refused(x, "count(MAX)", ARGUMENT, () -> x.count(Integer.MAX_VALUE));
        Due.refused(x, "count(MIN)", ARGUMENT, () -> x.count(Integer.MIN_VALUE));
    }

    private static void setting() {
        PoolTurns x = new PoolTurns();
        x.set(6, 0);
        x.set(2, 8);
        Due.row("settings", Due.settings(x), 4, 2, 8, 0, 1, 10, 0, 20, 15);
        x.undo();
        Due.row("settings behind undo", Due.settings(x), 4, 2, 1, 0, 1, 10, 0, 20, 15);
        Due.refused(x, "setting(-1)", INDEX, () -> x.setting(-1));
        Due.refused(x, "setting(9)", INDEX, () -> x.setting(9));
    }
}
