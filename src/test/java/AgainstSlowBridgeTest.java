import java.util.function.DoubleSupplier;
import java.util.function.LongSupplier;

/** Promises 1 to 17: long runs of calls, the same on the class and on the document's words. */
public final class AgainstSlowBridgeTest {
    private static final int RUNS = 600;
    // With the digest behind each and the table ahead of them, within an object's 512 calls.
    private static final int CALLS = 250;

    private static long dice;

    public static void main(String[] args) {
        for (int run = 0; run < RUNS; run++) {
            dice = run * 7919L + 17;
            play(run);
        }
        Check.end();
    }

    private static void play(int run) {
        BridgeBells b = new BridgeBells();
        SlowBridge s = new SlowBridge();
        int longest = 1 + upTo(run % 3 == 0 ? 240 : 12);
        if (run % 2 == 0) {
            fillTheTable(b, s);
        }
        for (int call = 0; call < CALLS; call++) {
            step("run " + run + ", call " + call, b, s, longest);
            Check.same("run " + run + ", digest behind call " + call, b.digest(), s.digest());
        }
    }

    /** Thrown calls seldom set the cold of the hour 0 ahead of the minute 0. */
    private static void fillTheTable(BridgeBells b, SlowBridge s) {
        for (int hour = 0; hour < 8; hour++) {
            int cold = upTo(7) - 3;
            b.setCold(hour, cold);
            s.setCold(hour, cold);
        }
    }

    private static void step(String name, BridgeBells b, SlowBridge s, int longest) {
        int t = upTo(s.travellers.size() + 2) - 1;
        int minutes = upTo(8) == 0 ? upTo(244) - 1 : 1 + upTo(longest);
        int what = upTo(14) - 1;
        switch (upTo(20)) {
            case 0: case 1: case 2:
                boolean barge = upTo(2) == 0;
                int needs = upTo(upTo(4) == 0 ? 8 : 7);
                compare(name + " come", () -> b.come(barge, needs), () -> s.come(barge, needs));
                break;
            case 3:
                compare(name + " leave", () -> b.leave(t), () -> s.leave(t));
                break;
            case 4:
                int code = upTo(upTo(4) == 0 ? 7 : 5) - (upTo(9) == 0 ? 1 : 0);
                compare(name + " ring", () -> b.ring(code), () -> s.ring(code));
                break;
            case 5:
                int counterpoise = upTo(33) - 1;
                compare(name + " poise", () -> b.poise(counterpoise), () -> s.poise(counterpoise));
                break;
            case 6:
                int hour = upTo(10) - 1;
                int cold = upTo(9) - 4;
                compare(name + " setCold", () -> b.setCold(hour, cold), () -> s.setCold(hour, cold));
                break;
            case 7:
                compare(name + " crack", b::crack, s::crack);
                break;
            case 8:
                compare(name + " traveller", () -> b.traveller(t, what), () -> s.traveller(t, what));
                break;
            case 9:
                compare(name + " count", () -> b.count(what), () -> s.count(what));
                break;
            case 10:
                boolean up = upTo(2) == 0;
                compare(name + " speed", () -> b.speed(up), () -> s.speed(up));
                break;
            case 11: case 12: case 13: case 14:
                compare(name + " pass", () -> b.pass(minutes), () -> s.pass(minutes));
                break;
            case 15:
                compare(name + " when", () -> b.when(t), () -> s.when(t));
                break;
            case 16:
                compare(name + " foresee", () -> b.foresee(minutes, what), () -> s.foresee(minutes, what));
                break;
            case 17:
                compare(name + " bestCode", () -> b.bestCode(minutes), () -> s.bestCode(minutes));
                break;
            case 18:
                compare(name + " bestPoise", () -> b.bestPoise(minutes), () -> s.bestPoise(minutes));
                break;
            default:
                compareDoubles(name + " mean", b::mean, s::mean);
        }
    }

    private static void compare(String name, LongSupplier got, LongSupplier due) {
        Check.same(name, answer(got), answer(due));
    }

    private static void compareDoubles(String name, DoubleSupplier got, DoubleSupplier due) {
        Check.sameDouble(name, got.getAsDouble(), due.getAsDouble());
    }

    /** An exception counts as a number that no call answers. */
    private static long answer(LongSupplier call) {
        try {
            return call.getAsLong();
        } catch (RuntimeException e) {
            return Long.MIN_VALUE + e.getClass().getName().hashCode();
        }
    }

    /** Numbers that look thrown, but are the same in every run of the test. */
    private static int upTo(int bound) {
        dice = dice * 6364136223846793005L + 1442695040888963407L;
        return (int) ((dice >>> 33) % bound);
    }
}
