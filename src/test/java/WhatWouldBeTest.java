/** Promises 12 to 17: when, foresee, bestCode, bestPoise, mean, digest. */
public final class WhatWouldBeTest {
    private static final Class<?> ARGUMENT = IllegalArgumentException.class;
    private static final Class<?> INDEX = IndexOutOfBoundsException.class;

    public static void main(String[] args) {
        promise12();
        whenAtItsEdge();
        promise13();
        promise14();
        promise15();
        promise16();
        promise17();
        Check.end();
    }

    private static void promise12() {
        BridgeBells b = new BridgeBells();
        Check.refused("12: of none", b, INDEX, () -> b.when(0));
        b.come(false, 2);
        b.come(true, 3);
        b.come(false, 1);
        Check.refused("12: when(-1)", b, INDEX, () -> b.when(-1));
        Check.refused("12: when(3)", b, INDEX, () -> b.when(3));
        Check.refused("12: when(least)", b, INDEX, () -> b.when(Integer.MIN_VALUE));
        Check.refused("12: when(greatest)", b, INDEX, () -> b.when(Integer.MAX_VALUE));
        Check.same("12: the first", b.when(0), 2);
        Check.same("12: the second", b.when(1), 25);
        Check.same("12: the third", b.when(2), 41);
        Check.unchanged("12: when(2)", b, () -> b.when(2));
        b.pass(1);
        Check.same("12: one that passes", b.when(0), 1);
        b.pass(1);
        Check.same("12: one that has passed", b.when(0), 0);
        b.ring(4);
        Check.same("12: nobody is served", b.when(1), -1);
        b.leave(1);
        b.ring(0);
        Check.same("12: one that went away", b.when(1), -1);
        Check.same("12: the bridge stays down for the third", b.when(2), 1);

        BridgeBells long6 = new BridgeBells();
        long6.come(false, 6);
        long6.come(false, 2);
        long6.pass(2);
        Check.same("12: with the minutes that it has to go", long6.when(0), 4);
        Check.same("12: behind it", long6.when(1), 6);

        BridgeBells turns = new BridgeBells();
        turns.come(true, 1);
        turns.pass(21);
        turns.come(true, 1);
        turns.come(false, 1);
        Check.same("12: the next barge", turns.when(1), 1);
        turns.ring(3);
        Check.same("12: by turns behind the cart", turns.when(1), 15 + 1 + 20 + 1);
    }

    /** One that passes behind 400 minutes to the minute, and before that behind more. */
    private static void whenAtItsEdge() {
        BridgeBells b = new BridgeBells();
        b.poise(0);
        for (int t = 0; t < 5; t++) {
            b.come(true, 6);
            b.come(false, 6);
        }
        Check.same("12: the ninth", b.when(8), 60 * 5 + 10 * 4 + 6 * 9);
        Check.same("12: 410 minutes are too many", b.when(9), -1);
        b.pass(9);
        Check.same("12: 401 minutes are too many", b.when(9), -1);
        b.pass(1);
        Check.same("12: 400 minutes", b.when(9), 400);
        b.pass(1);
        Check.same("12: 399 minutes", b.when(9), 399);
    }

    private static void promise13() {
        BridgeBells b = new BridgeBells();
        Check.refused("13: foresee(0, 0)", b, ARGUMENT, () -> b.foresee(0, 0));
        Check.refused("13: foresee(241, 0)", b, ARGUMENT, () -> b.foresee(241, 0));
        Check.refused("13: foresee(least, 0)", b, ARGUMENT, () -> b.foresee(Integer.MIN_VALUE, 0));
        Check.refused("13: foresee(0, 4)", b, ARGUMENT, () -> b.foresee(0, 4));
        Check.refused("13: foresee(241, -1)", b, ARGUMENT, () -> b.foresee(241, -1));
        Check.refused("13: foresee(1, -1)", b, INDEX, () -> b.foresee(1, -1));
        Check.refused("13: foresee(240, 4)", b, INDEX, () -> b.foresee(240, 4));
        b.setCold(0, 2);
        b.setCold(1, 3);
        b.setCold(2, 1);
        b.pass(1);
        b.come(false, 2);
        b.come(true, 3);
        b.come(false, 1);
        b.pass(1);
        foreseen(b, 1, 1, 2, 0, 2);
        foreseen(b, 21, 1, 42, 60, 2);
        foreseen(b, 24, 2, 45, 60, 2);
        foreseen(b, 40, 3, 60, 0, 2);
        foreseen(b, 58, 3, 60, 0, 2);
        foreseen(b, 59, 3, 60, 0, 5);
        foreseen(b, 240, 3, 60, 0, 6);
        b.pass(22);
        foreseen(b, 1, 0, 1, 60, 2);
        foreseen(b, 3, 1, 3, 56, 2);
        for (int what = 0; what < 4; what++) {
            int asked = what;
            Check.unchanged("13: foresee(240, " + what + ")", b, () -> b.foresee(240, asked));
        }
    }

    private static void foreseen(BridgeBells b, int minutes, int... due) {
        for (int what = 0; what < due.length; what++) {
            Check.same("13: foresee(" + minutes + ", " + what + ")", b.foresee(minutes, what), due[what]);
        }
    }

    private static void promise14() {
        BridgeBells b = new BridgeBells();
        Check.refused("14: bestCode(0)", b, ARGUMENT, () -> b.bestCode(0));
        Check.refused("14: bestCode(241)", b, ARGUMENT, () -> b.bestCode(241));
        Check.refused("14: bestCode(least)", b, ARGUMENT, () -> b.bestCode(Integer.MIN_VALUE));
        Check.refused("14: bestCode(greatest)", b, ARGUMENT, () -> b.bestCode(Integer.MAX_VALUE));
        b.ring(4);
        Check.same("14: of all the least", b.bestCode(240), 0);
        b.come(true, 1);
        b.come(false, 1);
        Check.same("14: the cart first", b.bestCode(1), 2);
        Check.same("14: the cart first in the longest", b.bestCode(240), 2);
        Check.unchanged("14: bestCode(60)", b, () -> b.bestCode(60));

        BridgeBells c = new BridgeBells();
        c.come(false, 6);
        c.come(true, 1);
        c.pass(27);
        Check.same("14: the barge has passed", c.count(8), 2);
        c.come(false, 1);
        c.come(true, 1);
        Check.same("14: the barge first while the bridge is up", c.bestCode(10), 1);

        BridgeBells d = new BridgeBells();
        d.come(true, 1);
        d.pass(20);
        d.leave(0);
        d.come(false, 1);
        d.come(true, 1);
        d.come(true, 1);
        int[] waits = new int[4];
        for (int code = 0; code < 4; code++) {
            d.ring(code);
            waits[code] = d.foresee(60, 1);
        }
        Check.same("14: by number", waits[0], 15 + 36 + 37);
        Check.same("14: barges first", waits[1], 17 + 0 + 1);
        Check.same("14: carts first", waits[2], 15 + 36 + 37);
        Check.same("14: by turns", waits[3], 16 + 0 + 37);
        Check.same("14: the fewest, not the last that are fewer than the first", d.bestCode(60), 1);
    }

    private static void promise15() {
        BridgeBells b = new BridgeBells();
        Check.refused("15: bestPoise(0)", b, ARGUMENT, () -> b.bestPoise(0));
        Check.refused("15: bestPoise(241)", b, ARGUMENT, () -> b.bestPoise(241));
        Check.refused("15: bestPoise(least)", b, ARGUMENT, () -> b.bestPoise(Integer.MIN_VALUE));
        Check.refused("15: bestPoise(greatest)", b, ARGUMENT, () -> b.bestPoise(Integer.MAX_VALUE));
        Check.same("15: of all the least", b.bestPoise(240), 0);
        b.come(true, 1);
        Check.same("15: not in 10", b.bestPoise(10), 0);
        Check.same("15: in 11 by 6 a minute", b.bestPoise(11), 30);
        Check.same("15: in 13 by 5", b.bestPoise(13), 30);
        b.pass(3);
        Check.same("15: between", b.count(1), 9);
        Check.same("15: however the bridge stands", b.bestPoise(60), 30);
        Check.unchanged("15: bestPoise(60)", b, () -> b.bestPoise(60));
        b.ring(4);
        Check.same("15: nobody is served", b.bestPoise(240), 0);

        BridgeBells c = new BridgeBells();
        c.come(true, 1);
        c.pass(21);
        Check.same("15: up", c.count(1), 60);
        c.come(false, 1);
        Check.same("15: down by 6", c.bestPoise(60), 0);
        c.pass(11);
        Check.same("15: on its way down", c.count(1), 16);
        Check.same("15: down by 6 from there", c.bestPoise(5), 0);

        BridgeBells d = new BridgeBells();
        d.come(true, 1);
        d.pass(19);
        Check.same("15: nearly up", d.count(1), 57);
        Check.same("15: the least of several", d.bestPoise(60), 12);
    }

    private static void promise16() {
        BridgeBells b = new BridgeBells();
        Check.sameDouble("16: of none", b.mean(), 0.0);
        b.come(true, 1);
        Check.sameDouble("16: at first", b.mean(), 0.0);
        b.come(false, 2);
        b.come(false, 3);
        b.ring(2);
        b.pass(3);
        Check.sameDouble("16: two thirds and more", b.mean(), 5 / 3.0);
        b.leave(0);
        b.pass(10);
        Check.sameDouble("16: with the one that went away", b.mean(), 5 / 3.0);
        b.come(true, 6);
        Check.sameDouble("16: by all travellers", b.mean(), 1.25);
    }

    private static void promise17() {
        Check.same("17: of a new object", new BridgeBells().digest(), new SlowBridge().digest());
        BridgeBells b = new BridgeBells();
        b.setCold(7, 3);
        b.setCold(0, -3);
        b.come(true, 4);
        b.ring(1);
        b.pass(22);
        long d = 1021;
        int[] numbers = {22, 60, 15, 0, 1, 1, 0, 0, 0, 20, 0, -1, -3, 0, 0, 0, 0, 0, 0, 3, 1, 4, 1, 0, 20, 2, -1};
        for (int x : numbers) {
            d = d * 31 + x;
        }
        Check.same("17: number by number", b.digest(), d);
        Check.same("17: nothing is changed", b.digest(), d);
    }
}
