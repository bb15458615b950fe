/** The document's terms: what is held, cut, first, last or none in the bridge, the cold, the codes and a minute. */
public final class TermsEdgesTest {
    public static void main(String[] args) {
        speedOfEveryCounterpoiseAndIce();
        theBridgeGoesByItsSpeed();
        angleIsHeldAt60();
        angleIsHeldAt0();
        onePassesOnlyBehindAllOfTheWay();
        noIceBeforeMinute60ButThatOfMinute0();
        hoursGoFrom7To0Again();
        iceIsHeldAt9();
        iceIsHeldAt0();
        nobodyIsServedOfNone();
        oneKindAloneIsServedByEveryCode();
        bothKindsByEveryCode();
        byTurnsWithNoneYet();
        byTurnsBehindEither();
        theLatestIsNotTheGreatestNumber();
        whoGoesAwayIsNotTheLatest();
        nobodyIsServedWhileOnePasses();
        code4ServesNobodyOf40();
        onePassesAtATime();
        thePassingOneDoesNotWait();
        theLastOfAll40IsServed();
        Check.end();
    }

    /** 1 + counterpoise / 6 and 6 - counterpoise / 6, cut; of that half from an ice of 5, cut, at least 1. */
    private static void speedOfEveryCounterpoiseAndIce() {
        int[] from = {0, 6, 12, 18, 24, 30};
        int[] to = {5, 11, 17, 23, 29, 30};
        int[] up = {1, 2, 3, 4, 5, 6};
        int[] down = {6, 5, 4, 3, 2, 1};
        int[] upOnIce = {1, 1, 1, 2, 2, 3};
        int[] downOnIce = {3, 2, 2, 1, 1, 1};
        for (int ice = 0; ice <= 9; ice++) {
            BridgeBells b = withIce(ice);
            for (int i = 0; i < from.length; i++) {
                for (int counterpoise = from[i]; counterpoise <= to[i]; counterpoise++) {
                    b.poise(counterpoise);
                    String name = " with " + counterpoise + " and an ice of " + ice;
                    Check.same("speed(true)" + name, b.speed(true), ice < 5 ? up[i] : upOnIce[i]);
                    Check.same("speed(false)" + name, b.speed(false), ice < 5 ? down[i] : downOnIce[i]);
                }
            }
        }
    }

    private static void theBridgeGoesByItsSpeed() {
        for (int ice : new int[] {0, 4, 5, 9}) {
            for (int counterpoise : new int[] {0, 5, 6, 17, 18, 29, 30}) {
                String name = " in a minute with " + counterpoise + " and an ice of " + ice;
                BridgeBells up = withIce(ice);
                up.poise(counterpoise);
                up.come(true, 1);
                up.pass(1);
                Check.same("up" + name, up.count(1), up.speed(true));
                BridgeBells down = withIce(ice);
                down.come(true, 1);
                down.pass(61);
                down.poise(counterpoise);
                down.come(false, 1);
                down.pass(1);
                Check.same("down" + name, 60 - down.count(1), down.speed(false));
            }
        }
    }

    private static void angleIsHeldAt60() {
        BridgeBells b = new BridgeBells();
        b.poise(18);
        b.come(true, 1);
        b.come(false, 1);
        b.pass(1);
        b.ring(2);
        b.pass(1);
        Check.same("up by 4, down by 3", b.count(1), 1);
        b.ring(1);
        b.pass(14);
        Check.same("up by 4 from 1", b.count(1), 57);
        b.pass(1);
        Check.same("up by 4 from 57", b.count(1), 60);
        b.pass(1);
        Check.same("up, it passes", b.traveller(0, 2), 2);
        b.pass(1);
        Check.same("down by 3, so it stood at 60", b.count(1), 57);
    }

    private static void angleIsHeldAt0() {
        BridgeBells b = new BridgeBells();
        b.poise(24);
        b.come(true, 1);
        b.come(false, 1);
        b.pass(1);
        b.ring(2);
        b.pass(2);
        Check.same("up by 5, down by 2 twice", b.count(1), 1);
        Check.same("nobody passes at 1", b.count(10) + b.count(8), -1);
        b.pass(1);
        Check.same("down by 2 from 1", b.count(1), 0);
        Check.same("nobody has passed yet", b.count(8), 0);
        Check.same("the cart passes down", b.pass(1), 1);
    }

    /** A barge passes at 60 and not at 59, a cart at 0 and not at 1. */
    private static void onePassesOnlyBehindAllOfTheWay() {
        BridgeBells b = new BridgeBells();
        b.poise(0);
        b.come(true, 1);
        b.pass(59);
        Check.same("the angle a minute before", b.count(1), 59);
        Check.same("the barge does not pass at 59", b.pass(1), 0);
        Check.same("it passes at 60", b.pass(1), 1);
        b.poise(30);
        b.come(false, 1);
        b.pass(59);
        Check.same("the angle a minute before 0", b.count(1), 1);
        Check.same("the cart does not pass at 1", b.pass(1), 0);
        Check.same("it passes at 0", b.pass(1), 1);
    }

    private static void noIceBeforeMinute60ButThatOfMinute0() {
        BridgeBells b = new BridgeBells();
        b.setCold(0, 1);
        b.setCold(1, 2);
        Check.same("no ice before the minute 0", b.count(3), 0);
        b.pass(1);
        Check.same("the ice of the minute 0", b.count(3), 1);
        b.pass(58);
        Check.same("none of the minute 58", b.count(3), 1);
        b.pass(1);
        Check.same("none of the minute 59", b.count(3), 1);
        b.pass(1);
        Check.same("the ice of the minute 60", b.count(3), 3);
        b.pass(1);
        Check.same("none of the minute 61", b.count(3), 3);
    }

    /** Each hour's cold comes in its own minute of each of three days, and in no other. */
    private static void hoursGoFrom7To0Again() {
        for (int cold = 0; cold < 8; cold++) {
            BridgeBells b = new BridgeBells();
            b.setCold(cold, 1);
            int ice = 0;
            for (int day = 0; day < 3; day++) {
                for (int hour = 0; hour < 8; hour++) {
                    b.pass(1);
                    ice += hour == cold ? 1 : 0;
                    String name = "the ice by the cold of " + cold + " in hour " + hour + " of day " + day;
                    Check.same(name, b.count(3), ice);
                    b.pass(59);
                    Check.same(name + ", at its end", b.count(3), ice);
                }
            }
        }
    }

    private static void iceIsHeldAt9() {
        for (int cold = 0; cold <= 3; cold++) {
            BridgeBells b = withIce(9);
            b.setCold(3, cold);
            b.pass(60);
            Check.same("9 and " + cold, b.count(3), 9);
            b.setCold(4, -1);
            b.pass(60);
            Check.same("1 less than held", b.count(3), 8);
        }
        BridgeBells eight = withIce(8);
        eight.setCold(3, 1);
        eight.pass(60);
        Check.same("8 and 1", eight.count(3), 9);
        BridgeBells seven = withIce(7);
        seven.setCold(3, 3);
        seven.pass(60);
        Check.same("7 and 3", seven.count(3), 9);
    }

    private static void iceIsHeldAt0() {
        for (int cold = -3; cold <= 0; cold++) {
            BridgeBells b = withIce(0);
            b.setCold(3, cold);
            b.pass(60);
            Check.same("0 and " + cold, b.count(3), 0);
            b.setCold(4, 1);
            b.pass(60);
            Check.same("1 more than held", b.count(3), 1);
        }
        BridgeBells one = withIce(1);
        one.setCold(3, -1);
        one.pass(60);
        Check.same("1 and -1", one.count(3), 0);
        BridgeBells two = withIce(2);
        two.setCold(3, -3);
        two.pass(60);
        Check.same("2 and -3", two.count(3), 0);
        BridgeBells four = withIce(4);
        four.setCold(3, -3);
        four.pass(60);
        Check.same("4 and -3", four.count(3), 1);
    }

    private static void nobodyIsServedOfNone() {
        codes("no travellers", new BridgeBells(), -1, -1, -1, -1, -1);
        codes("all have passed", Position.ALL_HAVE_PASSED.make(), -1, -1, -1, -1, -1);
        codes("all 40 went away", Position.FORTY_WENT_AWAY.make(), -1, -1, -1, -1, -1);
    }

    private static void oneKindAloneIsServedByEveryCode() {
        codes("a barge alone", Position.BARGE_WAITS.make(), 0, 0, 0, 0, -1);
        codes("a cart alone", Position.CART_WAITS.make(), 0, 0, 0, 0, -1);
        BridgeBells carts = new BridgeBells();
        carts.come(true, 1);
        carts.come(false, 1);
        carts.come(false, 1);
        carts.leave(0);
        codes("carts alone, the barge went away", carts, 1, 1, 1, 1, -1);
        BridgeBells barges = new BridgeBells();
        barges.come(false, 1);
        barges.pass(1);
        barges.come(true, 1);
        barges.come(true, 1);
        codes("barges alone, the cart has passed", barges, 1, 1, 1, 1, -1);
    }

    private static void bothKindsByEveryCode() {
        BridgeBells cart = new BridgeBells();
        cart.come(false, 1);
        cart.come(false, 1);
        cart.come(true, 1);
        cart.come(true, 1);
        codes("the carts came first", cart, 0, 2, 0, 2, -1);
        BridgeBells barge = new BridgeBells();
        barge.come(true, 1);
        barge.come(true, 1);
        barge.come(false, 1);
        barge.come(false, 1);
        codes("the barges came first", barge, 0, 0, 2, 0, -1);
        barge.leave(0);
        barge.leave(2);
        codes("the first of each went away", barge, 1, 1, 3, 1, -1);
    }

    /** Code 3 otherwise (also if there was none yet) as 1; a bridge that stands up is none that passed. */
    private static void byTurnsWithNoneYet() {
        BridgeBells b = new BridgeBells();
        b.come(true, 1);
        b.pass(20);
        b.come(false, 1);
        Check.same("the bridge is up", b.count(1), 60);
        codes("none yet", b, 0, 0, 1, 0, -1);
    }

    private static void byTurnsBehindEither() {
        BridgeBells b = Position.BARGE_WAS_THE_LATEST.make();
        codes("behind a barge", b, 1, 1, 2, 2, -1);
        b.ring(3);
        b.pass(15);
        codes("still behind a barge, before the cart begins", b, 1, 1, 2, 2, -1);
        b.ring(3);
        b.pass(3);
        b.come(false, 1);
        codes("behind a cart", b, 1, 1, 3, 1, -1);
        BridgeBells other = Position.BARGE_WAS_THE_LATEST.make();
        other.leave(2);
        codes("behind a barge, without carts", other, 1, 1, 1, 1, -1);
    }

    private static void theLatestIsNotTheGreatestNumber() {
        BridgeBells b = new BridgeBells();
        b.come(true, 1);
        b.come(false, 1);
        b.ring(2);
        b.pass(1);
        b.pass(21);
        Check.same("both have passed, the barge behind", b.traveller(0, 6) > b.traveller(1, 6) ? 1 : 0, 1);
        b.come(true, 1);
        b.come(false, 1);
        codes("the barge was the latest", b, 2, 2, 3, 3, -1);
        BridgeBells c = new BridgeBells();
        c.come(false, 1);
        c.come(true, 1);
        c.ring(1);
        c.pass(37);
        Check.same("both have passed, the cart behind", c.traveller(0, 6) > c.traveller(1, 6) ? 1 : 0, 1);
        c.come(true, 1);
        c.come(false, 1);
        codes("the cart was the latest", c, 2, 2, 3, 2, -1);
    }

    private static void whoGoesAwayIsNotTheLatest() {
        BridgeBells b = new BridgeBells();
        b.come(false, 1);
        b.pass(1);
        b.come(true, 1);
        b.pass(20);
        b.leave(1);
        b.come(false, 1);
        b.come(true, 1);
        codes("the barge never began", b, 2, 3, 2, 3, -1);
    }

    private static void nobodyIsServedWhileOnePasses() {
        codes("a cart passes", Position.CART_PASSES.make(), -1, -1, -1, -1, -1);
        codes("a barge passes", Position.BARGE_PASSES_BY_TURNS.make(), -1, -1, -1, -1, -1);
        Check.same("the one that passes is number 0", Position.CART_PASSES.make().count(10), 0);
        Check.same("none passes any more", Position.ALL_HAVE_PASSED.make().count(10), -1);
    }

    private static void code4ServesNobodyOf40() {
        BridgeBells b = Position.FORTY_WAIT.make();
        b.ring(4);
        Check.same("nobody is next", b.count(11), -1);
        Check.same("nobody passes in 240 minutes", b.pass(240), 0);
        Check.same("the bridge stays down", b.count(1), 0);
        Check.same("all wait", b.count(9), 40 * 240);
        BridgeBells between = Position.NOBODY_IS_SERVED.make();
        between.pass(240);
        Check.same("the bridge stays between", between.count(1), 15);
        BridgeBells passing = Position.CART_PASSES.make();
        passing.ring(4);
        Check.same("the one that passes goes on", passing.pass(4), 1);
        Check.same("then nobody", passing.pass(240), 0);
    }

    private static void onePassesAtATime() {
        BridgeBells b = new BridgeBells();
        b.come(false, 2);
        b.come(false, 1);
        b.come(false, 1);
        int[] due = {0, 1, 1, 1};
        int[] passing = {0, -1, -1, -1};
        for (int minute = 0; minute < due.length; minute++) {
            Check.same("passed in the minute " + minute, b.pass(1), due[minute]);
            Check.same("passes behind the minute " + minute, b.count(10), passing[minute]);
        }
        Check.same("the second one's minute", b.traveller(1, 6), 2);
        Check.same("the third one's minute", b.traveller(2, 6), 3);
    }

    private static void thePassingOneDoesNotWait() {
        BridgeBells b = new BridgeBells();
        b.come(false, 6);
        b.come(false, 1);
        b.pass(1);
        Check.same("the first waited", b.traveller(0, 4), 0);
        Check.same("the second waited", b.traveller(1, 4), 1);
        b.pass(5);
        Check.same("the second waited while the first passed", b.traveller(1, 4), 6);
        b.pass(10);
        Check.same("nobody waits on", b.count(9), 6);
    }

    private static void theLastOfAll40IsServed() {
        BridgeBells b = new BridgeBells();
        for (int traveller = 0; traveller < 39; traveller++) {
            b.come(false, 1);
        }
        b.come(true, 2);
        codes("the barge is the last of 40", b, 0, 39, 0, 39, -1);
        b.ring(1);
        b.pass(21);
        Check.same("the last passes", b.count(10), 39);
        Check.same("it has a minute to go", b.traveller(39, 5), 1);
        b.pass(1);
        Check.same("the last has passed", b.traveller(39, 6), 21);
        codes("the carts are left", b, 0, 0, 0, 0, -1);
    }

    /** An object with this ice, without travellers, in the minute 121. */
    static BridgeBells withIce(int ice) {
        BridgeBells b = new BridgeBells();
        int left = ice;
        for (int hour = 0; hour < 3; hour++) {
            int cold = left < 3 ? left : 3;
            b.setCold(hour, cold);
            left -= cold;
        }
        b.pass(121);
        for (int hour = 0; hour < 3; hour++) {
            b.setCold(hour, 0);
        }
        Check.same("the ice to begin with", b.count(3), ice);
        return b;
    }

    /** Who is served next by each code in turn. */
    private static void codes(String when, BridgeBells b, int... due) {
        for (int code = 0; code < due.length; code++) {
            b.ring(code);
            Check.same("count(11) by code " + code + ", " + when, b.count(11), due[code]);
        }
    }
}
