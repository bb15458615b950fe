/** Promise 11: pass, and so the four steps of a minute. */
public final class MinutesTest {
    private static final Class<?> ARGUMENT = IllegalArgumentException.class;

    public static void main(String[] args) {
        howMany();
        bridgeGoes();
        noTurningBackWhileOnePasses();
        iceComes();
        iceSlows();
        Check.end();
    }

    private static void howMany() {
        BridgeBells b = new BridgeBells();
        Check.refused("11: pass(0)", b, ARGUMENT, () -> b.pass(0));
        Check.refused("11: pass(-1)", b, ARGUMENT, () -> b.pass(-1));
        Check.refused("11: pass(241)", b, ARGUMENT, () -> b.pass(241));
        Check.refused("11: pass(least)", b, ARGUMENT, () -> b.pass(Integer.MIN_VALUE));
        Check.refused("11: pass(greatest)", b, ARGUMENT, () -> b.pass(Integer.MAX_VALUE));
        Check.same("11: nobody passes", b.pass(240), 0);
        Check.same("11: the minute", b.count(0), 240);
        b.come(false, 1);
        b.come(false, 1);
        b.come(false, 2);
        b.come(false, 1);
        Check.same("11: one in one", b.pass(1), 1);
        Check.same("11: none in the first half", b.pass(2) - b.traveller(1, 6) + 241, 1);
        Check.same("11: the third goes on", b.count(10), 2);
        Check.same("11: two in two", b.pass(2), 2);
        Check.same("11: all", b.count(8), 4);
        Check.same("11: one after the other", b.traveller(3, 6), 244);
        Check.same("11: nobody left", b.pass(1), 0);
    }

    /** Not beyond 0 or 60, and towards what the served one needs, though nobody waits there. */
    private static void bridgeGoes() {
        BridgeBells b = new BridgeBells();
        b.poise(18);
        b.come(true, 1);
        b.pass(14);
        Check.same("11: up by 4", b.count(1), 56);
        b.pass(1);
        Check.same("11: up", b.count(1), 60);
        Check.same("11: it passes in the next minute alone", b.traveller(0, 2), 0);
        Check.same("11: then", b.pass(1), 1);
        b.pass(10);
        Check.same("11: the bridge stays without travellers", b.count(1), 60);
        b.poise(6);
        b.come(false, 1);
        b.pass(11);
        Check.same("11: down by 5", b.count(1), 5);
        b.ring(4);
        b.pass(3);
        Check.same("11: nobody served", b.count(1), 5);
        b.come(true, 1);
        b.ring(1);
        b.pass(2);
        Check.same("11: up again by 2", b.count(1), 9);
        b.ring(2);
        b.pass(2);
        Check.same("11: held at 0", b.count(1), 0);

        BridgeBells c = new BridgeBells();
        c.poise(24);
        c.come(true, 2);
        c.ring(1);
        c.pass(11);
        c.come(false, 1);
        Check.same("11: up by 5", c.count(1), 55);
        c.ring(2);
        c.pass(2);
        Check.same("11: down by 2", c.count(1), 51);
        c.ring(1);
        c.pass(2);
        Check.same("11: held at 60", c.count(1), 60);
    }

    private static void noTurningBackWhileOnePasses() {
        BridgeBells b = new BridgeBells();
        b.come(false, 6);
        b.pass(1);
        b.come(true, 1);
        b.ring(1);
        b.pass(4);
        Check.same("11: the cart is on the bridge", b.count(1), 0);
        Check.same("11: it passes", b.count(10), 0);
        b.ring(4);
        Check.same("11: it passes, though nobody is served", b.pass(1), 1);
        b.ring(1);
        b.pass(1);
        Check.same("11: up then", b.count(1), 3);
        Check.same("11: the barge waited", b.traveller(1, 4), 6);
        Check.same("11: the cart did not", b.traveller(0, 4), 0);
    }

    private static void iceComes() {
        BridgeBells b = new BridgeBells();
        for (int hour = 0; hour < 8; hour++) {
            b.setCold(hour, hour == 4 ? -3 : hour == 6 ? -2 : hour == 7 ? 1 : 3);
        }
        int[] due = {3, 6, 9, 9, 6, 9, 7, 8, 9, 9};
        b.pass(1);
        for (int hour = 0; hour < due.length; hour++) {
            Check.same("11: the ice in hour " + hour, b.count(3), due[hour]);
            b.pass(59);
            Check.same("11: the ice at the end of hour " + hour, b.count(3), due[hour]);
            b.pass(1);
        }
        BridgeBells c = new BridgeBells();
        c.setCold(0, 2);
        c.setCold(1, -3);
        c.pass(61);
        Check.same("11: the ice held at 0", c.count(3), 0);
    }

    /** The ice of a minute comes behind its first step: it slows the bridge from the next minute on. */
    private static void iceSlows() {
        BridgeBells b = new BridgeBells();
        b.setCold(0, 3);
        b.setCold(1, 2);
        b.pass(60);
        b.come(true, 1);
        b.poise(30);
        b.pass(1);
        Check.same("11: fast in the minute of the ice", b.count(1), 6);
        b.pass(1);
        Check.same("11: slow behind it", b.count(1), 9);
        b.crack();
        b.pass(1);
        Check.same("11: fast without ice", b.count(1), 15);
    }
}
