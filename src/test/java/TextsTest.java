import java.util.Arrays;

/** Promises 11 to 15: append, clearBuffer, firstError, run, undo. */
public final class TextsTest {
    private static final Class<IllegalStateException> STATE = IllegalStateException.class;
    private static final Class<IllegalArgumentException> ARGUMENT = IllegalArgumentException.class;

    public static void main(String[] args) {
        append();
        clearBuffer();
        firstError();
        everyPairOfSigns();
        runMakesCalls();
        runStops();
        runRefuses();
        runOfSixty();
        undoRestoresAll();
        undoOfEachCall();
        undoKeepsSix();
        undoLeavesTheBuffer();
        Due.end();
    }

    private static void append() {
        PoolTurns x = new PoolTurns();
        Due.refused(x, "append(32)", ARGUMENT, () -> x.append(32));
        Due.refused(x, "append(127)", ARGUMENT, () -> x.append(127));
        Due.refused(x, "append(-1)", ARGUMENT, () -> x.append(-1));
        Due.refused(x, "append(MAX)", ARGUMENT, () -> x.append(Integer.MAX_VALUE));
        Due.equal("append(33)", x.append(33), 1);
        Due.equal("append(126)", x.append(126), 2);
        for (int length = 3; length <= 60; length++) {
            Due.equal("append", x.append('a'), length);
        }
        Due.refused(x, "append to 60", STATE, () -> x.append('a'));
        Due.refused(x, "append(32) to 60, the argument first", ARGUMENT, () -> x.append(32));
        Due.equal("not saved", x.count(13), 0);
    }

    private static void clearBuffer() {
        PoolTurns x = new PoolTurns();
        Due.equal("empty", x.clearBuffer(), 0);
        Due.write(x, "a0a");
        Due.equal("three", x.clearBuffer(), 3);
        Due.equal("empty again", x.clearBuffer(), 0);
        Due.equal("appended anew", x.append('g'), 1);
        Due.equal("no error of the old text", x.firstError(), 1);
        Due.equal("not saved", x.count(13), 0);
    }

    private static void firstError() {
        errorAt("", 0);
        errorAt("a", 1);
        errorAt("a0", 2);
        errorAt("+9", 2);
        errorAt("x", 0);
        errorAt("a8", 1);
        errorAt("a9", 1);
        errorAt("aa", 1);
        errorAt("+0", 1);
        errorAt("++", 1);
        errorAt("A0", 0);
        errorAt("a0g7s0v7c0+1", 12);
        errorAt("a0g8s8", 3);
        errorAt("a0;x", 2);
        errorAt("g0s1v2c3+4a", 11);
    }

    private static void errorAt(String text, int due) {
        PoolTurns x = new PoolTurns();
        Due.write(x, text);
        long before = x.digest();
        Due.equal("firstError of " + text, x.firstError(), due);
        Due.equal("nothing is changed by it", x.digest(), before);
    }

    private static void everyPairOfSigns() {
        for (int first = 33; first <= 126; first++) {
            for (int second = 33; second <= 126; second++) {
                PoolTurns x = new PoolTurns();
                x.append(first);
                x.append(second);
                boolean isCall = "agsvc".indexOf(first) >= 0;
                boolean fits = isCall ? second >= '0' && second <= '7' : second >= '1' && second <= '9';
                int due = !isCall && first != '+' ? 0 : fits ? 2 : 1;
                Due.equal("firstError of " + (char) first + (char) second, x.firstError(), due);
            }
        }
    }

    private static void runMakesCalls() {
        PoolTurns x = new PoolTurns();
        Due.write(x, "a0a7+2s0g0v7+7c7g1a3");
        Due.equal("all of them", x.run(), 10);
        Due.equal("one saved state", x.count(13), 1);
        Due.equal("the buffer is cleared", x.clearBuffer(), 0);
        PoolTurns y = new PoolTurns();
        y.ask(0);
        y.ask(7);
        y.pass(2);
        y.sicken(0);
        y.give(0);
        y.appear(7, false);
        y.pass(7);
        y.appear(7, true);
        y.give(1);
        y.ask(3);
        Due.row("the same as the calls", Due.state(x), Due.state(y));
    }

    private static void runStops() {
        stopsBehind("a0g0g0a1", 2);
        stopsBehind("g0a0", 0);
        stopsBehind("a0s1a1", 1);
        stopsBehind("c0", 0);
        stopsBehind("v0v0", 1);
        stopsBehind("v0a0", 1);
        stopsBehind("a0v0g0", 2);
        stopsBehind("a0a0a0a0", 3);
    }

    private static void stopsBehind(String text, int due) {
        PoolTurns x = new PoolTurns();
        PoolTurns y = new PoolTurns();
        Due.write(x, text);
        Due.equal("run of " + text, x.run(), due);
        Due.equal("saved once", x.count(13), 1);
        Due.equal("cleared", x.clearBuffer(), 0);
        if (due > 0) {
            Due.play(y, text.substring(0, 2 * due));
        }
        Due.row("what stays of " + text, Due.state(x), Due.state(y));
        x.undo();
        Due.row("undone as one", Due.state(x), Due.state(new PoolTurns()));
    }

    private static void runRefuses() {
        for (String text : new String[] {"", "a", "a0g", "a8", "x0", "a0;", "+0", "a0a0b"}) {
            PoolTurns x = new PoolTurns();
            Due.write(x, text);
            Due.refused(x, "run of " + text, ARGUMENT, () -> x.run());
            Due.equal("the buffer stays", x.clearBuffer(), text.length());
            Due.equal("not saved", x.count(13), 0);
        }
    }

    private static void runOfSixty() {
        PoolTurns x = new PoolTurns();
        StringBuilder text = new StringBuilder();
        for (int round = 0; round < 15; round++) {
            text.append("a1+9");
            if (round % 2 == 1) {
                text.setLength(text.length() - 4);
                text.append("g0+1");
            }
        }
        Due.write(x, text.toString());
        Due.equal("no error in sixty", x.firstError(), 60);
        Due.equal("thirty calls", x.run(), 30);
        Due.equal("time", x.count(0), 8 * 9 + 7);
    }

    private static void undoRestoresAll() {
        PoolTurns x = new PoolTurns();
        Due.play(x, "a0a0a0a1a2a3s1+5g0v1");
        long[] before = Due.state(x);
        long digest = x.digest();
        x.pass(99);
        Due.equal("left", x.undo(), 1);
        Due.row("all is restored", Due.state(x), before);
        Due.equal("digest too", x.digest(), digest);
        Due.equal("left", x.undo(), 0);
        Due.equal("as new", x.digest(), new PoolTurns().digest());
        Due.refused(x, "undo of none", STATE, () -> x.undo());
    }

    private static void undoOfEachCall() {
        for (int kind = 0; kind < 10; kind++) {
            PoolTurns x = new PoolTurns();
            x.set(0, 3);
            Due.play(x, "a0a0a1a2a3s0+3v3");
            long digest = x.digest();
            callOfKind(x, kind);
            Due.equal("saved by kind " + kind, x.count(13), 3);
            Due.equal("undo of kind " + kind, x.undo(), 2);
            Due.equal("digest behind undo of kind " + kind, x.digest(), digest);
        }
    }

    private static void callOfKind(PoolTurns x, int kind) {
        switch (kind) {
            case 0 -> x.ask(1);
            case 1 -> x.give(0);
            case 2 -> x.giveUp(2);
            case 3 -> x.appear(0, false);
            case 4 -> x.appear(3, true);
            case 5 -> x.sicken(1);
            case 6 -> x.check();
            case 7 -> x.drain();
            case 8 -> x.set(0, 8);
            default -> x.pass(12);
        }
    }

    private static void undoKeepsSix() {
        PoolTurns x = new PoolTurns();
        for (int calls = 1; calls <= 9; calls++) {
            x.pass(1);
            Due.equal("saved states", x.count(13), Math.min(calls, 6));
        }
        for (int left = 5; left >= 0; left--) {
            Due.equal("undo", x.undo(), left);
            Due.equal("time", x.count(0), 3 + left);
        }
        Due.refused(x, "the oldest are dropped", STATE, () -> x.undo());
        x.pass(5);
        Due.equal("saved again", x.undo(), 0);
        Due.equal("time", x.count(0), 3);
    }

    private static void undoLeavesTheBuffer() {
        PoolTurns x = new PoolTurns();
        x.ask(0);
        Due.write(x, "a1");
        x.undo();
        Due.equal("the buffer stays", x.firstError(), 2);
        x.run();
        x.undo();
        Due.equal("a cleared buffer stays so", x.clearBuffer(), 0);
        Due.equal("state", Arrays.hashCode(Due.state(x)), Arrays.hashCode(Due.state(new PoolTurns())));
    }
}
