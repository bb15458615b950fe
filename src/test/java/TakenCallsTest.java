/**
 * The last values that each call takes, at both ends, with what they answer and change: none of them
 * throws, and the others beside them are in RefusedCallsTest.
 */
public final class TakenCallsTest {
    public static void main(String[] args) {
        aNewObjectHasNobodyAndNothing();
        comeTakes1To6();
        fortyTravellersAreTaken();
        travellersThatAreGoneStillCountAmongThe40();
        leaveTakesTheFirstAndTheLast();
        leaveAnswersNoMinutesAndMany();
        ringTakes0To4();
        poiseTakes0To30();
        poiseIsTakenDownAndUp();
        setColdTakesHours0To7();
        setColdTakesMinus3To3();
        crackAtEveryIce();
        travellerTakes0To6();
        countTakes0To11();
        passTakes1To240();
        passAnswersNoneAndAll40();
        lastOf512Calls();
        Check.end();
    }

    private static void aNewObjectHasNobodyAndNothing() {
        BridgeBells b = new BridgeBells();
        int[] counts = {0, 0, 15, 0, 0, 0, 0, 0, 0, 0, -1, -1};
        for (int what = 0; what < 12; what++) {
            Check.same("new: count(" + what + ")", b.count(what), counts[what]);
        }
        Check.same("new: speed(true)", b.speed(true), 3);
        Check.same("new: speed(false)", b.speed(false), 4);
        Check.sameDouble("new: mean()", b.mean(), 0);
        for (int what = 0; what < 4; what++) {
            Check.same("new: foresee(240, " + what + ")", b.foresee(240, what), 0);
        }
        Check.same("new: bestCode(240)", b.bestCode(240), 0);
        Check.same("new: bestPoise(240)", b.bestPoise(240), 0);
        Check.same("new: crack()", b.crack(), 0);
        Check.same("new: pass(240)", b.pass(240), 0);
        Check.same("new: the angle then", b.count(1), 0);
    }

    /** It passes in just so many minutes as it needs, and not in one less. */
    private static void comeTakes1To6() {
        for (int minutes = 1; minutes <= 6; minutes++) {
            BridgeBells b = new BridgeBells();
            Check.same("come(false, " + minutes + ")", b.come(false, minutes), 0);
            Check.same("come(true, " + minutes + ")", b.come(true, minutes), 1);
            Check.same("the cart's minutes", b.traveller(0, 1), minutes);
            Check.same("the barge's minutes", b.traveller(1, 1), minutes);
            for (int toGo = minutes - 1; toGo >= 1; toGo--) {
                Check.same("not yet passed with " + toGo + " to go", b.pass(1), 0);
                Check.same("to go of " + minutes, b.traveller(0, 5), toGo);
            }
            Check.same("passed behind " + minutes, b.pass(1), 1);
            Check.same("nothing to go", b.traveller(0, 5), 0);
            Check.same("passed in", b.traveller(0, 6), minutes - 1);
        }
    }

    private static void fortyTravellersAreTaken() {
        BridgeBells b = new BridgeBells();
        for (int traveller = 0; traveller < 40; traveller++) {
            Check.same("the number of the one that comes", b.come(traveller < 20, 6), traveller);
            Check.same("travellers", b.count(5), traveller + 1);
        }
        Check.same("barges that wait", b.count(6), 20);
        Check.same("carts that wait", b.count(7), 20);
        the41stIsRefused("all 40 wait", b);
    }

    private static void travellersThatAreGoneStillCountAmongThe40() {
        BridgeBells passed = new BridgeBells();
        for (int traveller = 0; traveller < 40; traveller++) {
            Check.same("the next behind those that passed", passed.come(false, 1), traveller);
            passed.pass(1);
        }
        Check.same("all have passed", passed.count(8), 40);
        the41stIsRefused("all 40 have passed", passed);

        BridgeBells away = new BridgeBells();
        for (int traveller = 0; traveller < 40; traveller++) {
            Check.same("the next behind those that went away", away.come(true, 1), traveller);
            away.leave(traveller);
        }
        Check.same("nobody waits", away.count(6) + away.count(7), 0);
        Check.same("all are still travellers", away.count(5), 40);
        the41stIsRefused("all 40 went away", away);
    }

    private static void the41stIsRefused(String when, BridgeBells b) {
        Check.same("the 41st is refused, as " + when,
                Check.thrownBy(b, x -> x.come(false, 1)) == IllegalStateException.class ? 1 : 0, 1);
        Check.same("still 40, as " + when, b.count(5), 40);
    }

    private static void leaveTakesTheFirstAndTheLast() {
        BridgeBells b = Position.FORTY_WAIT.make();
        Check.same("leave(0)", b.leave(0), 0);
        Check.same("leave(39)", b.leave(39), 0);
        Check.same("the first went away", b.traveller(0, 2), 3);
        Check.same("the second waits", b.traveller(1, 2), 0);
        Check.same("the last but one waits", b.traveller(38, 2), 0);
        Check.same("the last went away", b.traveller(39, 2), 3);
        Check.same("all others wait", b.count(6) + b.count(7), 38);
        Check.same("nobody has passed", b.count(8), 0);
    }

    private static void leaveAnswersNoMinutesAndMany() {
        BridgeBells b = new BridgeBells();
        b.come(true, 1);
        Check.same("leave at once", b.leave(0), 0);
        b.ring(4);
        b.come(true, 1);
        b.pass(1);
        Check.same("leave behind a minute", b.leave(1), 1);
        b.come(false, 1);
        b.pass(240);
        b.pass(240);
        Check.same("leave behind 480 minutes", b.leave(2), 480);
        b.pass(9);
        Check.same("it waits no longer", b.traveller(2, 4), 480);
        Check.same("the minutes that all waited", b.count(9), 481);
    }

    private static void ringTakes0To4() {
        BridgeBells b = new BridgeBells();
        int before = 0;
        for (int code : new int[] {4, 0, 0, 1, 2, 3, 4, 4, 3, 2, 1, 0}) {
            Check.same("ring(" + code + ")", b.ring(code), before);
            Check.same("count(4) behind ring(" + code + ")", b.count(4), code);
            before = code;
        }
    }

    private static void poiseTakes0To30() {
        BridgeBells b = new BridgeBells();
        int before = 15;
        for (int counterpoise = 0; counterpoise <= 30; counterpoise++) {
            Check.same("poise(" + counterpoise + ")", b.poise(counterpoise), before);
            Check.same("count(2) behind poise(" + counterpoise + ")", b.count(2), counterpoise);
            before = counterpoise;
        }
        Check.same("poise(0) behind 30", b.poise(0), 30);
        Check.same("poise(30) behind 0", b.poise(30), 0);
    }

    /** Also while one passes. */
    private static void poiseIsTakenDownAndUp() {
        BridgeBells down = Position.CART_PASSES.make();
        Check.same("poise while the bridge is down", down.poise(0), 15);
        BridgeBells up = Position.BARGE_PASSES_BY_TURNS.make();
        Check.same("poise while the bridge is up", up.poise(30), 15);
        Check.same("the barge still passes", up.count(10), 0);
    }

    private static void setColdTakesHours0To7() {
        int[] colds = {1, -1, 2, -2, 3, -3, 0, 2};
        BridgeBells b = new BridgeBells();
        for (int hour = 0; hour < 8; hour++) {
            Check.same("setCold at first of hour " + hour, b.setCold(hour, colds[hour]), 0);
        }
        for (int hour = 0; hour < 8; hour++) {
            Check.same("setCold then of hour " + hour, b.setCold(hour, 0), colds[hour]);
        }
    }

    private static void setColdTakesMinus3To3() {
        BridgeBells b = new BridgeBells();
        int before = 0;
        for (int cold = -3; cold <= 3; cold++) {
            Check.same("setCold(0, " + cold + ")", b.setCold(0, cold), before);
            Check.same("setCold(7, " + cold + ")", b.setCold(7, cold), before);
            before = cold;
        }
        Check.same("setCold(0, -3) behind 3", b.setCold(0, -3), 3);
        Check.same("setCold(7, -3) behind 3", b.setCold(7, -3), 3);
    }

    private static void crackAtEveryIce() {
        int[] due = {0, 0, 0, 0, 1, 2, 3, 4, 5, 6};
        for (int ice = 0; ice <= 9; ice++) {
            BridgeBells b = TermsEdgesTest.withIce(ice);
            Check.same("crack() of " + ice, b.crack(), due[ice]);
            Check.same("the ice behind crack() of " + ice, b.count(3), due[ice]);
        }
    }

    private static void travellerTakes0To6() {
        BridgeBells b = Position.FORTY_WAIT.make();
        int[] first = {0, 1, 0, 0, 0, 0, -1};
        int[] last = {0, 4, 0, 0, 0, 0, -1};
        for (int what = 0; what <= 6; what++) {
            Check.same("traveller(0, " + what + ")", b.traveller(0, what), first[what]);
            Check.same("traveller(39, " + what + ")", b.traveller(39, what), last[what]);
        }
        BridgeBells c = new BridgeBells();
        c.come(false, 1);
        c.pass(1);
        Check.same("passed in the minute 0", c.traveller(0, 6), 0);
        c.pass(240);
        c.come(true, 1);
        Check.same("it came in the minute 241", c.traveller(1, 3), 241);
    }

    private static void countTakes0To11() {
        BridgeBells b = Position.FORTY_ON_THEIR_WAY.make();
        int[] due = {102, 60, 15, 2, 1, 40, 9, 7, 22, 2724, 18, -1};
        for (int what = 0; what <= 11; what++) {
            Check.same("count(" + what + ") of 40", b.count(what), due[what]);
        }
    }

    private static void passTakes1To240() {
        BridgeBells b = new BridgeBells();
        b.pass(1);
        Check.same("the minute behind pass(1)", b.count(0), 1);
        b.pass(240);
        Check.same("the minute behind pass(240)", b.count(0), 241);
        for (Position position : Position.values()) {
            BridgeBells atOnce = position.make();
            BridgeBells oneByOne = position.make();
            int passed = atOnce.pass(100);
            int added = 0;
            for (int minute = 0; minute < 100; minute++) {
                added += oneByOne.pass(1);
            }
            Check.same("pass(100) in " + position, passed, added);
            Check.same("the digest behind pass(100) in " + position, atOnce.digest(), oneByOne.digest());
        }
    }

    private static void passAnswersNoneAndAll40() {
        BridgeBells b = new BridgeBells();
        for (int traveller = 0; traveller < 40; traveller++) {
            b.come(false, 6);
        }
        Check.same("40 carts in their 240 minutes", b.pass(240), 40);
        Check.same("the last one's minute", b.traveller(39, 6), 239);
        Check.same("none behind all", b.pass(240), 0);
        BridgeBells c = new BridgeBells();
        c.come(false, 2);
        Check.same("none in the first of two", c.pass(1), 0);
        Check.same("one in the second of two", c.pass(1), 1);
        Check.same("none behind it", c.pass(1), 0);
    }

    /** An object is used for 512 calls: the last of them still answers as due. */
    private static void lastOf512Calls() {
        Check.same("the minute as the 512th call", behind511Calls().count(0), 468 * 240);
        Check.same("the wait of all as the 512th call", behind511Calls().count(9), 40 * 468 * 240);
        Check.same("the wait of one as the 512th call", behind511Calls().traveller(39, 4), 468 * 240);
        Check.sameDouble("the mean as the 512th call", behind511Calls().mean(), 468 * 240);
        Check.same("foresee as the 512th call", behind511Calls().foresee(240, 1), 9600);
        Check.same("the ice as the 512th call", behind511Calls().count(3), 8);
    }

    private static BridgeBells behind511Calls() {
        BridgeBells b = new BridgeBells();
        for (int traveller = 0; traveller < 40; traveller++) {
            b.come(traveller % 2 == 0, 6);
        }
        b.ring(4);
        // 468 times 4 hours are whole days of the table, so the hour 7 was the latest: 9, and 1 less.
        b.setCold(3, 3);
        b.setCold(7, -1);
        for (int call = 44; call <= 511; call++) {
            b.pass(240);
        }
        return b;
    }
}
