import java.util.Random;

/** All promises: walks of calls, the same ones each time, on the pool and on a plain second one. */
public final class WalksTest {
    private static final int WALKS = 400;
    private static final int CALLS = 512;
    private static final int[] LEAST = {1, 1, 0, 0, 0, 1, 0, 1, 1};
    private static final int[] GREATEST = {8, 8, 8, 1, 1, 99, 99, 99, 99};
    private static final String KINDS = "aaaaggsvc+";

    private final Random random;
    private final PoolTurns pool = new PoolTurns();
    private final PlainPool plain = new PlainPool();
    private final StringBuilder told = new StringBuilder();
    private boolean goesOn = true;

    private WalksTest(int seed) {
        random = new Random(seed);
    }

    public static void main(String[] args) {
        for (int seed = 0; seed < WALKS; seed++) {
            new WalksTest(seed).walk(seed);
        }
        Due.end();
    }

    private void walk(int seed) {
        // some walks keep few connections and short times, so that waiters, leases and closings meet
        if (seed % 2 == 0) {
            for (int setting = 0; setting < 9; setting++) {
                int least = LEAST[setting];
                set(setting, least + below(Math.min(8, GREATEST[setting] - least + 1)));
            }
        }
        // and some begin close to the end of time
        for (int round = 0; seed % 10 == 5 && round < 100; round++) {
            same("pass(99)", () -> pool.pass(99), () -> plain.pass(99));
        }
        for (int call = 0; call < CALLS && goesOn; call++) {
            step();
            same("digest()", pool::digest, plain::digest);
        }
    }

    private int below(int bound) {
        return random.nextInt(bound);
    }

    /** Mostly a number that is fine, at times one just outside, seldom one far outside. */
    private int near(int least, int greatest) {
        int dice = below(40);
        if (dice == 0) {
            return below(2) == 0 ? least - 1 : greatest + 1;
        }
        if (dice == 1 && below(4) == 0) {
            return random.nextInt();
        }
        return least + below(greatest - least + 1);
    }

    private void step() {
        int dice = below(100);
        if (dice < 22) {
            int owner = near(0, 7);
            same("ask(" + owner + ")", () -> pool.ask(owner), () -> plain.ask(owner));
        } else if (dice < 40) {
            int place = near(0, 7);
            same("give(" + place + ")", () -> pool.give(place), () -> plain.give(place));
        } else if (dice < 43) {
            int owner = near(0, 7);
            same("giveUp(" + owner + ")", () -> pool.giveUp(owner), () -> plain.giveUp(owner));
        } else if (dice < 51) {
            int owner = near(0, 7);
            boolean is = below(2) == 0;
            same("appear(" + owner + ", " + is + ")", () -> pool.appear(owner, is), () -> plain.appear(owner, is));
        } else if (dice < 57) {
            int place = near(0, 7);
            same("sicken(" + place + ")", () -> pool.sicken(place), () -> plain.sicken(place));
        } else if (dice < 59) {
            same("check()", pool::check, plain::check);
        } else if (dice < 60) {
            same("drain()", pool::drain, plain::drain);
        } else if (dice < 66) {
            int setting = near(0, 8);
            boolean isOne = setting >= 0 && setting <= 8;
            set(setting, isOne ? near(LEAST[setting], GREATEST[setting]) : below(9));
        } else if (dice < 78) {
            int units = below(10) == 0 ? near(1, 99) : near(1, 6);
            same("pass(" + units + ")", () -> pool.pass(units), () -> plain.pass(units));
        } else if (dice < 84) {
            text();
        } else if (dice < 90) {
            same("undo()", pool::undo, plain::undo);
        } else {
            look();
        }
    }

    private void set(int setting, int value) {
        same("set(" + setting + ", " + value + ")", () -> pool.set(setting, value), () -> plain.set(setting, value));
    }

    private void text() {
        int parts = 1 + below(12);
        for (int part = 0; part < parts; part++) {
            char kind = KINDS.charAt(below(KINDS.length()));
            append(below(60) == 0 ? near(33, 126) : kind);
            append(below(60) == 0 ? near(33, 126) : kind == '+' ? '1' + below(9) : '0' + below(8));
        }
        same("firstError()", pool::firstError, plain::firstError);
        int dice = below(8);
        if (dice == 0) {
            same("clearBuffer()", pool::clearBuffer, plain::clearBuffer);
        } else if (dice > 1) {
            same("run()", pool::run, plain::run);
        }
    }

    private void append(int code) {
        same("append(" + code + ")", () -> pool.append(code), () -> plain.append(code));
    }

    private void look() {
        int one = near(0, 7);
        int what = near(0, 6);
        int units = near(0, 200);
        same("place(" + one + ", " + what + ")", () -> pool.place(one, what), () -> plain.place(one, what));
        same("owner(" + one + ", " + what + ")", () -> pool.owner(one, what), () -> plain.owner(one, what));
        same("count(" + 2 * what + ")", () -> pool.count(2 * what), () -> plain.count(2 * what));
        same("setting(" + one + ")", () -> pool.setting(one), () -> plain.setting(one));
        int asked = near(0, 2);
        same("ifAsked(" + one + ", " + asked + ")", () -> pool.ifAsked(one, asked), () -> plain.ifAsked(one, asked));
        int passed = near(0, 3);
        same("ifPassed(" + units + ", " + passed + ")", () -> pool.ifPassed(units, passed),
            () -> plain.ifPassed(units, passed));
        same("waitsFor(" + one + ")", () -> pool.waitsFor(one), () -> plain.waitsFor(one));
        same("blocker()", pool::blocker, plain::blocker);
        same("fairness()", () -> Double.doubleToLongBits(pool.fairness()),
            () -> Double.doubleToLongBits(plain.fairness()));
    }

    private void same(String call, Due.Call ofPool, Due.Call ofPlain) {
        String got = answer(ofPool);
        String due = answer(ofPlain);
        if (!call.equals("digest()")) {
            told.append(call).append(" -> ").append(due).append('\n');
        }
        if (goesOn && !got.equals(due)) {
            Due.report(told + call + " answered " + got + ", due is " + due);
            goesOn = false;
        }
    }

    private static String answer(Due.Call call) {
        try {
            return String.valueOf(call.answer());
        } catch (RuntimeException e) {
            return "throws." + e.getClass().getSimpleName();
        }
    }
}
