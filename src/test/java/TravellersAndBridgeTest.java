/** Promises 1 to 7: a new object, come, leave, ring, poise, setCold, crack. */
public final class TravellersAndBridgeTest {
    private static final Class<?> ARGUMENT = IllegalArgumentException.class;
    private static final Class<?> STATE = IllegalStateException.class;
    private static final Class<?> INDEX = IndexOutOfBoundsException.class;

    public static void main(String[] args) {
        promise1();
        promise2();
        promise3();
        promise4();
        promise5();
        promise6();
        promise7();
        Check.end();
    }

    private static void promise1() {
        BridgeBells b = new BridgeBells();
        int[] counts = {0, 0, 15, 0, 0, 0, 0, 0, 0, 0, -1, -1};
        for (int what = 0; what < counts.length; what++) {
            Check.same("1: count(" + what + ")", b.count(what), counts[what]);
        }
        for (int hour = 0; hour < 8; hour++) {
            Check.same("1: the cold of hour " + hour, b.setCold(hour, 0), 0);
        }
        BridgeBells other = new BridgeBells();
        other.come(true, 2);
        other.pass(3);
        Check.same("1: another object leaves this one alone", b.count(5) + b.count(0), 0);
    }

    private static void promise2() {
        BridgeBells b = new BridgeBells();
        Check.refused("2: come(true, 0)", b, ARGUMENT, () -> b.come(true, 0));
        Check.refused("2: come(false, 7)", b, ARGUMENT, () -> b.come(false, 7));
        Check.refused("2: come(true, least)", b, ARGUMENT, () -> b.come(true, Integer.MIN_VALUE));
        Check.refused("2: come(true, greatest)", b, ARGUMENT, () -> b.come(true, Integer.MAX_VALUE));
        Check.same("2: the first", b.come(true, 1), 0);
        b.pass(3);
        Check.same("2: the second", b.come(false, 6), 1);
        int[][] due = {{1, 1, 0, 0, 3, 0, -1}, {0, 6, 0, 3, 0, 0, -1}};
        for (int t = 0; t < 2; t++) {
            for (int what = 0; what < 7; what++) {
                Check.same("2: traveller(" + t + ", " + what + ")", b.traveller(t, what), due[t][what]);
            }
        }
        b.leave(1);
        for (int t = 2; t < 40; t++) {
            Check.same("2: traveller " + t, b.come(t % 2 == 0, 1 + t % 6), t);
        }
        Check.same("2: travellers", b.count(5), 40);
        Check.refused("2: the 41st", b, STATE, () -> b.come(true, 1));
        Check.refused("2: the 41st with minutes too few", b, ARGUMENT, () -> b.come(true, 0));
        Check.refused("2: the 41st with minutes too many", b, ARGUMENT, () -> b.come(false, 7));
    }

    private static void promise3() {
        BridgeBells b = new BridgeBells();
        Check.refused("3: leave(0) of none", b, INDEX, () -> b.leave(0));
        b.come(false, 2);
        b.come(false, 3);
        b.come(true, 1);
        Check.refused("3: leave(-1)", b, INDEX, () -> b.leave(-1));
        Check.refused("3: leave(3)", b, INDEX, () -> b.leave(3));
        Check.refused("3: leave(least)", b, INDEX, () -> b.leave(Integer.MIN_VALUE));
        Check.refused("3: leave(greatest)", b, INDEX, () -> b.leave(Integer.MAX_VALUE));
        b.pass(1);
        Check.refused("3: leave of one that passes", b, STATE, () -> b.leave(0));
        b.pass(1);
        Check.refused("3: leave of one that has passed", b, STATE, () -> b.leave(0));
        Check.same("3: leave(1)", b.leave(1), 2);
        Check.refused("3: leave of one that went away", b, STATE, () -> b.leave(1));
        Check.same("3: its state", b.traveller(1, 2), 3);
        Check.same("3: the next is another", b.count(11), 2);
        b.pass(5);
        Check.same("3: it waits no longer", b.traveller(1, 4), 2);
        Check.same("3: it never passed", b.traveller(1, 6), -1);
        Check.same("3: when is never", b.when(1), -1);
        Check.same("3: it is no cart that waits", b.count(7), 0);
        Check.same("3: all still count its minutes", b.count(9), 2 + 7);
        BridgeBells c = new BridgeBells();
        c.come(true, 1);
        Check.same("3: leave at once", c.leave(0), 0);
        Check.same("3: nobody next", c.count(11), -1);
    }

    private static void promise4() {
        BridgeBells b = new BridgeBells();
        Check.refused("4: ring(-1)", b, ARGUMENT, () -> b.ring(-1));
        Check.refused("4: ring(5)", b, ARGUMENT, () -> b.ring(5));
        Check.refused("4: ring(least)", b, ARGUMENT, () -> b.ring(Integer.MIN_VALUE));
        Check.refused("4: ring(greatest)", b, ARGUMENT, () -> b.ring(Integer.MAX_VALUE));
        for (int code = 1; code <= 4; code++) {
            Check.same("4: ring(" + code + ")", b.ring(code), code - 1);
            Check.same("4: the code", b.count(4), code);
        }
        Check.same("4: ring(0)", b.ring(0), 4);
        Check.same("4: ring(0) once more", b.ring(0), 0);
    }

    private static void promise5() {
        BridgeBells b = new BridgeBells();
        Check.refused("5: poise(-1)", b, ARGUMENT, () -> b.poise(-1));
        Check.refused("5: poise(31)", b, ARGUMENT, () -> b.poise(31));
        Check.refused("5: poise(least)", b, ARGUMENT, () -> b.poise(Integer.MIN_VALUE));
        Check.refused("5: poise(greatest)", b, ARGUMENT, () -> b.poise(Integer.MAX_VALUE));
        Check.same("5: poise(0)", b.poise(0), 15);
        Check.same("5: poise(30)", b.poise(30), 0);
        Check.same("5: poise(6)", b.poise(6), 30);
        b.come(true, 1);
        b.pass(1);
        Check.same("5: a little up", b.count(1), 2);
        Check.refused("5: poise between", b, STATE, () -> b.poise(6));
        Check.refused("5: poise(31) between", b, ARGUMENT, () -> b.poise(31));
        b.pass(28);
        Check.same("5: nearly up", b.count(1), 58);
        Check.refused("5: poise nearly up", b, STATE, () -> b.poise(10));
        b.pass(1);
        Check.same("5: up", b.count(1), 60);
        Check.same("5: poise up", b.poise(10), 6);
        Check.same("5: the counterpoise", b.count(2), 10);
    }

    private static void promise6() {
        BridgeBells b = new BridgeBells();
        Check.refused("6: setCold(-1, 0)", b, INDEX, () -> b.setCold(-1, 0));
        Check.refused("6: setCold(8, 0)", b, INDEX, () -> b.setCold(8, 0));
        Check.refused("6: setCold(least, 9)", b, INDEX, () -> b.setCold(Integer.MIN_VALUE, 9));
        Check.refused("6: setCold(8, 4)", b, INDEX, () -> b.setCold(8, 4));
        Check.refused("6: setCold(0, -4)", b, ARGUMENT, () -> b.setCold(0, -4));
        Check.refused("6: setCold(7, 4)", b, ARGUMENT, () -> b.setCold(7, 4));
        for (int hour = 0; hour < 8; hour++) {
            Check.same("6: first of " + hour, b.setCold(hour, hour % 7 - 3), 0);
        }
        for (int hour = 0; hour < 8; hour++) {
            Check.same("6: second of " + hour, b.setCold(hour, 3), hour % 7 - 3);
        }
        Check.same("6: the ice waits for its minute", b.count(3), 0);
    }

    private static void promise7() {
        BridgeBells b = new BridgeBells();
        Check.same("7: without ice", b.crack(), 0);
        b.setCold(0, 3);
        b.setCold(1, 2);
        b.pass(61);
        Check.same("7: the ice", b.count(3), 5);
        Check.same("7: once", b.crack(), 2);
        Check.same("7: kept", b.count(3), 2);
        Check.same("7: twice", b.crack(), 0);
        Check.same("7: kept again", b.count(3), 0);
    }
}
