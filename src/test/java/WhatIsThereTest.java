/** Promises 8 to 10: traveller, count, speed. */
public final class WhatIsThereTest {
    private static final Class<?> INDEX = IndexOutOfBoundsException.class;

    public static void main(String[] args) {
        promise8();
        promise9();
        servedNext();
        promise10();
        Check.end();
    }

    private static void promise8() {
        BridgeBells b = new BridgeBells();
        Check.refused("8: of none", b, INDEX, () -> b.traveller(0, 0));
        b.pass(5);
        b.come(false, 2);
        b.come(true, 3);
        Check.refused("8: traveller(-1, 0)", b, INDEX, () -> b.traveller(-1, 0));
        Check.refused("8: traveller(2, 0)", b, INDEX, () -> b.traveller(2, 0));
        Check.refused("8: traveller(0, -1)", b, INDEX, () -> b.traveller(0, -1));
        Check.refused("8: traveller(0, 7)", b, INDEX, () -> b.traveller(0, 7));
        Check.refused("8: traveller(least, greatest)", b, INDEX,
                () -> b.traveller(Integer.MIN_VALUE, Integer.MAX_VALUE));
        facts("came", b, 0, 0, 2, 0, 5, 0, 0, -1);
        b.pass(1);
        facts("passes", b, 0, 0, 2, 1, 5, 0, 1, -1);
        facts("waits", b, 1, 1, 3, 0, 5, 1, 0, -1);
        b.pass(1);
        facts("has passed", b, 0, 0, 2, 2, 5, 0, 0, 6);
        b.pass(20);
        facts("bridge up", b, 1, 1, 3, 0, 5, 22, 0, -1);
        b.pass(1);
        facts("barge passes", b, 1, 1, 3, 1, 5, 22, 2, -1);
        b.pass(2);
        facts("barge has passed", b, 1, 1, 3, 2, 5, 22, 0, 29);
        b.come(true, 6);
        b.ring(4);
        b.pass(4);
        b.leave(2);
        b.pass(4);
        facts("went away", b, 2, 1, 6, 3, 30, 4, 0, -1);
    }

    private static void facts(String when, BridgeBells b, int traveller, int... due) {
        for (int what = 0; what < due.length; what++) {
            Check.same("8: " + when + ": traveller(" + traveller + ", " + what + ")",
                    b.traveller(traveller, what), due[what]);
        }
    }

    private static void promise9() {
        BridgeBells b = new BridgeBells();
        Check.refused("9: count(-1)", b, INDEX, () -> b.count(-1));
        Check.refused("9: count(12)", b, INDEX, () -> b.count(12));
        Check.refused("9: count(least)", b, INDEX, () -> b.count(Integer.MIN_VALUE));
        Check.refused("9: count(greatest)", b, INDEX, () -> b.count(Integer.MAX_VALUE));
        b.setCold(0, 2);
        b.poise(12);
        b.come(false, 2);
        b.come(true, 1);
        b.come(true, 1);
        b.come(false, 6);
        counts("come", b, 0, 0, 12, 0, 0, 4, 2, 2, 0, 0, -1, 0);
        b.ring(3);
        counts("rung", b, 0, 0, 12, 0, 3, 4, 2, 2, 0, 0, -1, 1);
        b.ring(2);
        b.pass(1);
        counts("a minute", b, 1, 0, 12, 2, 2, 4, 2, 1, 0, 3, 0, -1);
        b.pass(1);
        counts("two minutes", b, 2, 0, 12, 2, 2, 4, 2, 1, 1, 6, -1, 3);
        b.leave(3);
        b.pass(3);
        counts("five minutes", b, 5, 9, 12, 2, 2, 4, 2, 0, 1, 12, -1, 1);
    }

    private static void counts(String when, BridgeBells b, int... due) {
        for (int what = 0; what < due.length; what++) {
            Check.same("9: " + when + ": count(" + what + ")", b.count(what), due[what]);
        }
    }

    /** The codes: with carts and barges, with one kind alone, and by turns. */
    private static void servedNext() {
        BridgeBells mixed = new BridgeBells();
        mixed.come(false, 1);
        mixed.come(true, 1);
        mixed.come(false, 1);
        mixed.come(true, 1);
        codes("cart, barge", mixed, 0, 1, 0, 1, -1);
        mixed.leave(0);
        codes("barge, cart", mixed, 1, 1, 2, 1, -1);
        mixed.leave(1);
        codes("cart, barge again", mixed, 2, 3, 2, 3, -1);
        mixed.leave(2);
        codes("a barge alone", mixed, 3, 3, 3, 3, -1);
        mixed.come(true, 1);
        codes("barges alone", mixed, 3, 3, 3, 3, -1);
        mixed.leave(3);
        mixed.leave(4);
        codes("nobody", mixed, -1, -1, -1, -1, -1);
        mixed.come(false, 1);
        codes("a cart alone", mixed, 5, 5, 5, 5, -1);

        BridgeBells turns = new BridgeBells();
        turns.come(true, 1);
        turns.come(true, 1);
        turns.come(false, 1);
        turns.come(false, 1);
        turns.ring(3);
        turns.pass(21);
        Check.same("codes: the barge has passed", turns.traveller(0, 6), 20);
        codes("behind a barge", turns, 1, 1, 2, 2, -1);
        turns.ring(3);
        turns.pass(15);
        Check.same("codes: the bridge is down", turns.count(1), 0);
        codes("the bridge alone is no turn", turns, 1, 1, 2, 2, -1);
        turns.ring(3);
        turns.pass(1);
        Check.same("codes: the cart has passed", turns.traveller(2, 6), 36);
        codes("behind a cart", turns, 1, 1, 3, 1, -1);
    }

    private static void codes(String when, BridgeBells b, int... due) {
        for (int code = 0; code < due.length; code++) {
            b.ring(code);
            Check.same("codes: " + when + ": by code " + code, b.count(11), due[code]);
        }
    }

    private static void promise10() {
        BridgeBells b = new BridgeBells();
        for (int counterpoise = 0; counterpoise <= 30; counterpoise++) {
            b.poise(counterpoise);
            Check.same("10: up with " + counterpoise, b.speed(true), 1 + counterpoise / 6);
            Check.same("10: down with " + counterpoise, b.speed(false), 6 - counterpoise / 6);
        }
        b.setCold(0, 3);
        b.setCold(1, 1);
        b.setCold(2, 1);
        b.pass(61);
        Check.same("10: the ice", b.count(3), 4);
        b.poise(30);
        Check.same("10: an ice of 4 does nothing", b.speed(true), 6);
        b.pass(60);
        Check.same("10: the ice then", b.count(3), 5);
        int[] slow = {1, 1, 1, 2, 2, 3};
        for (int sixths = 0; sixths <= 5; sixths++) {
            b.poise(6 * sixths);
            Check.same("10: up on ice with " + 6 * sixths, b.speed(true), slow[sixths]);
            Check.same("10: down on ice with " + 6 * sixths, b.speed(false), slow[5 - sixths]);
        }
    }
}
