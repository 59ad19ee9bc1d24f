/** What the tests share: they count what is wrong, and end with exit code 1 if something was. */
final class Due {
    interface Call {
        long answer();
    }

    private static int wrong = 0;

    private Due() {
    }

    static void equal(String what, long got, long want) {
        if (got != want) {
            report(what + " answered " + got + ", due is " + want);
        }
    }

    /** Looks at several answers in a row. */
    static void row(String what, long[] got, long... want) {
        equal(what + ", how many", got.length, want.length);
        for (int at = 0; at < got.length && at < want.length; at++) {
            equal(what + " [" + at + "]", got[at], want[at]);
        }
    }

    /** The call throws just this exception, and changes nothing. */
    static void refused(PoolTurns pool, String what, Class<? extends RuntimeException> kind, Call call) {
        long before = pool.digest();
        String thrown = "nothing";
        try {
            call.answer();
        } catch (RuntimeException e) {
            thrown = e.getClass().getName();
        }
        if (!thrown.equals(kind.getName())) {
            report(what + " threw " + thrown + ", due is " + kind.getName());
        }
        if (pool.digest() != before) {
            report(what + " changed something, though it is refused");
        }
    }

    static void report(String what) {
        wrong++;
        System.out.println(what);
    }

    static void end() {
        if (wrong != 0) {
            System.out.println(wrong + " answers are not as due");
            System.exit(1);
        }
    }

    static void write(PoolTurns pool, String text) {
        for (char sign : text.toCharArray()) {
            pool.append(sign);
        }
    }

    /** Makes the calls of a text; all of them are to be made. */
    static void play(PoolTurns pool, String text) {
        write(pool, text);
        equal("run of " + text, pool.run(), text.length() / 2);
    }

    static void pass(PoolTurns pool, int units) {
        for (int left = units; left > 0; left -= 99) {
            pool.pass(Math.min(left, 99));
        }
    }

    static long[] places(PoolTurns pool, int what) {
        long[] row = new long[8];
        for (int place = 0; place < 8; place++) {
            row[place] = pool.place(place, what);
        }
        return row;
    }

    static long[] place(PoolTurns pool, int place) {
        long[] row = new long[6];
        for (int what = 0; what < 6; what++) {
            row[what] = pool.place(place, what);
        }
        return row;
    }

    static long[] owner(PoolTurns pool, int owner) {
        long[] row = new long[7];
        for (int what = 0; what < 7; what++) {
            row[what] = pool.owner(owner, what);
        }
        return row;
    }

    static long[] counts(PoolTurns pool) {
        long[] row = new long[14];
        for (int what = 0; what < 14; what++) {
            row[what] = pool.count(what);
        }
        return row;
    }

    static long[] settings(PoolTurns pool) {
        long[] row = new long[9];
        for (int setting = 0; setting < 9; setting++) {
            row[setting] = pool.setting(setting);
        }
        return row;
    }

    /** All looks but the saved states, so that what undo restores can be looked at. */
    static long[] state(PoolTurns pool) {
        long[] row = new long[14 + 9 + 8 * 6 + 8 * 7];
        int at = 0;
        for (int what = 0; what < 13; what++) {
            row[at++] = pool.count(what);
        }
        for (int setting = 0; setting < 9; setting++) {
            row[at++] = pool.setting(setting);
        }
        for (int one = 0; one < 8; one++) {
            for (int what = 0; what < 6; what++) {
                row[at++] = pool.place(one, what);
            }
            for (int what = 0; what < 7; what++) {
                row[at++] = pool.owner(one, what);
            }
        }
        return row;
    }
}
