import java.math.BigInteger;

/** Promises 12 to 17 at their edges: none at all, all 40, the first and the last minutes, ties, the wrap-around. */
public final class SightEdgesTest {
    private static final int[] SPANS = {1, 59, 60, 61, 239, 240};

    public static void main(String[] args) {
        for (Position position : Position.values()) {
            whenIsTheMinuteInWhichItPasses(position);
            foreseeIsWhatComes(position);
            bestCodeIsTheLeastOfTheFewest(position);
            bestPoiseIsTheLeastOfTheFewest(position);
            digestWrapsAroundAs64Bits(position);
        }
        whenIs0IfItHasPassed();
        whenIs1InTheLastMinute();
        whenIsAtMost400();
        whenIsNeverForOneThatIsNotServed();
        foreseeOfNone();
        foreseeOfAll40();
        foreseeOfCode4();
        foreseeTheIceOfTheNextHour();
        foreseeTheHoursFrom7To0();
        foreseeTheHeldIce();
        bestCodeOfNoneIs0();
        bestCodeIs0To3ThoughCode4IsRung();
        bestCodeOfSeveralIsTheLeast();
        bestPoiseOfNoneIs0();
        bestPoiseFrom0To30();
        bestPoiseHoweverTheBridgeStands();
        bestPoiseOfSeveralIsTheLeast();
        meanOfNoneIs0();
        meanIsNotCut();
        meanOfAll40();
        digestOfANewObject();
        digestBeyond64Bits();
        Check.end();
    }

    private static void whenIsTheMinuteInWhichItPasses(Position position) {
        for (int traveller = 0; traveller < position.travellers(); traveller++) {
            BridgeBells b = position.make();
            int behind = b.when(traveller);
            String name = "when(" + traveller + ") in " + position + " is " + behind;
            Check.same(name + ", at least -1 and at most 400", behind >= -1 && behind <= 400 ? 1 : 0, 1);
            if (behind > 0) {
                passLong(b, behind - 1);
                Check.same(name + ": passed a minute before", b.traveller(traveller, 2) == 2 ? 1 : 0, 0);
                b.pass(1);
                Check.same(name + ": passed then", b.traveller(traveller, 2) == 2 ? 1 : 0, 1);
            } else if (behind == 0) {
                Check.same(name + ": passed already", b.traveller(traveller, 2), 2);
            } else {
                passLong(b, 400);
                Check.same(name + ": passed behind 400", b.traveller(traveller, 2) == 2 ? 1 : 0, 0);
            }
        }
    }

    private static void passLong(BridgeBells b, int minutes) {
        for (int left = minutes; left > 0; left -= 240) {
            b.pass(Math.min(left, 240));
        }
    }

    private static void foreseeIsWhatComes(Position position) {
        for (int minutes : SPANS) {
            BridgeBells b = position.make();
            String name = "foresee(" + minutes + ", .) in " + position;
            int[] foreseen = new int[4];
            for (int what = 0; what < 4; what++) {
                foreseen[what] = b.foresee(minutes, what);
            }
            int waited = b.count(9);
            Check.same(name + ": those that pass", foreseen[0], b.pass(minutes));
            Check.same(name + ": the minutes that all wait", foreseen[1], b.count(9) - waited);
            Check.same(name + ": the angle", foreseen[2], b.count(1));
            Check.same(name + ": the ice", foreseen[3], b.count(3));
        }
    }

    private static void bestCodeIsTheLeastOfTheFewest(Position position) {
        for (int minutes : SPANS) {
            BridgeBells b = position.make();
            int least = 0;
            int fewest = Integer.MAX_VALUE;
            for (int code = 0; code <= 3; code++) {
                b.ring(code);
                int wait = b.foresee(minutes, 1);
                least = wait < fewest ? code : least;
                fewest = Math.min(wait, fewest);
            }
            String name = "bestCode(" + minutes + ") in " + position;
            Check.same(name, position.make().bestCode(minutes), least);
            for (int code = 0; code <= 4; code++) {
                b.ring(code);
                Check.same(name + ", whichever code was rung", b.bestCode(minutes), least);
            }
        }
    }

    private static void bestPoiseIsTheLeastOfTheFewest(Position position) {
        if (position.angle() != 0 && position.angle() != 60) {
            return;
        }
        for (int minutes : SPANS) {
            BridgeBells b = position.make();
            int least = 0;
            int fewest = Integer.MAX_VALUE;
            for (int counterpoise = 0; counterpoise <= 30; counterpoise++) {
                b.poise(counterpoise);
                int wait = b.foresee(minutes, 1);
                least = wait < fewest ? counterpoise : least;
                fewest = Math.min(wait, fewest);
            }
            String name = "bestPoise(" + minutes + ") in " + position;
            Check.same(name, position.make().bestPoise(minutes), least);
            Check.same(name + ", with another counterpoise", b.bestPoise(minutes), least);
        }
    }

    private static void digestWrapsAroundAs64Bits(Position position) {
        BridgeBells b = position.make();
        BigInteger d = BigInteger.valueOf(1021);
        for (int what = 0; what < 12; what++) {
            d = behind(d, b.count(what));
        }
        for (int hour = 0; hour < 8; hour++) {
            d = behind(d, position.make().setCold(hour, 0));
        }
        int travellers = b.count(5);
        for (int traveller = 0; traveller < travellers; traveller++) {
            for (int what = 0; what < 7; what++) {
                d = behind(d, b.traveller(traveller, what));
            }
        }
        Check.same("digest() in " + position, b.digest(), d.longValue());
    }

    private static BigInteger behind(BigInteger d, int x) {
        return d.multiply(BigInteger.valueOf(31)).add(BigInteger.valueOf(x));
    }

    /** Also with a code that serves nobody. */
    private static void whenIs0IfItHasPassed() {
        BridgeBells b = Position.ALL_HAVE_PASSED.make();
        for (int traveller = 0; traveller < 3; traveller++) {
            Check.same("when(" + traveller + ") of one that has passed", b.when(traveller), 0);
        }
        b.ring(4);
        b.pass(240);
        Check.same("when(0) long behind it", b.when(0), 0);
    }

    private static void whenIs1InTheLastMinute() {
        BridgeBells b = new BridgeBells();
        b.come(false, 1);
        Check.same("when(0) of a minute, the bridge down", b.when(0), 1);
        b.come(false, 6);
        Check.same("when(1) behind it", b.when(1), 7);
        b.pass(6);
        Check.same("when(1) with 1 to go", b.when(1), 1);
        b.pass(1);
        Check.same("when(1) behind its last", b.when(1), 0);
        BridgeBells up = new BridgeBells();
        up.come(true, 1);
        Check.same("when(0) with all of the bridge's way", up.when(0), 21);
        up.pass(20);
        Check.same("when(0) with the bridge just up", up.when(0), 1);
    }

    /** By number, five times up by 1 and down by 6: 350 minutes of the bridge and 50 of the travellers. */
    private static void whenIsAtMost400() {
        Check.same("when(9) behind 399 minutes", tenInTurns(4).when(9), 399);
        Check.same("when(9) behind 400 minutes", tenInTurns(5).when(9), 400);
        BridgeBells b = tenInTurns(6);
        Check.same("when(9) not by 400 minutes", b.when(9), -1);
        Check.same("when(8) before it", b.when(8), 385);
        b.pass(1);
        Check.same("when(9) a minute later", b.when(9), 400);
    }

    private static BridgeBells tenInTurns(int minutesOfTheLast) {
        BridgeBells b = new BridgeBells();
        b.poise(0);
        for (int traveller = 0; traveller < 9; traveller++) {
            b.come(traveller % 2 == 0, 5);
        }
        b.come(false, minutesOfTheLast);
        return b;
    }

    private static void whenIsNeverForOneThatIsNotServed() {
        BridgeBells b = Position.FORTY_WAIT.make();
        b.ring(4);
        Check.same("when(0) by code 4", b.when(0), -1);
        Check.same("when(39) by code 4", b.when(39), -1);
        BridgeBells away = Position.FORTY_WENT_AWAY.make();
        away.ring(0);
        Check.same("when(0) of one that went away", away.when(0), -1);
        Check.same("when(39) of one that went away", away.when(39), -1);
    }

    private static void foreseeOfNone() {
        for (int minutes : SPANS) {
            BridgeBells b = new BridgeBells();
            for (int what = 0; what < 4; what++) {
                Check.same("foresee(" + minutes + ", " + what + ") of none", b.foresee(minutes, what), 0);
            }
        }
    }

    private static void foreseeOfAll40() {
        BridgeBells b = new BridgeBells();
        for (int traveller = 0; traveller < 40; traveller++) {
            b.come(false, 1);
        }
        int[] minutes = {1, 2, 39, 40, 41, 240};
        int[] passed = {1, 2, 39, 40, 40, 40};
        int[] waited = {39, 77, 780, 780, 780, 780};
        for (int i = 0; i < minutes.length; i++) {
            Check.same("40 carts: foresee(" + minutes[i] + ", 0)", b.foresee(minutes[i], 0), passed[i]);
            Check.same("40 carts: foresee(" + minutes[i] + ", 1)", b.foresee(minutes[i], 1), waited[i]);
        }
        b.pass(38);
        Check.same("those that passed before don't count", b.foresee(240, 0), 2);
        Check.same("what they waited before doesn't count", b.foresee(240, 1), 1);
    }

    private static void foreseeOfCode4() {
        BridgeBells b = Position.FORTY_WAIT.make();
        b.ring(4);
        Check.same("by code 4: foresee(240, 0)", b.foresee(240, 0), 0);
        Check.same("by code 4: foresee(1, 1)", b.foresee(1, 1), 40);
        Check.same("by code 4: foresee(240, 1)", b.foresee(240, 1), 9600);
        Check.same("by code 4: foresee(240, 2)", b.foresee(240, 2), 0);
    }

    private static void foreseeTheIceOfTheNextHour() {
        BridgeBells b = new BridgeBells();
        b.setCold(0, 1);
        b.setCold(1, 2);
        b.setCold(4, 3);
        Check.same("the minute 0 alone", b.foresee(1, 3), 1);
        Check.same("all but the minute 60", b.foresee(60, 3), 1);
        Check.same("the minute 60 too", b.foresee(61, 3), 3);
        Check.same("all but the minute 240", b.foresee(240, 3), 3);
        b.pass(1);
        Check.same("without the minute 0", b.foresee(1, 3), 1);
        Check.same("the minute 60 from 1 on", b.foresee(60, 3), 3);
        Check.same("the minute 240 from 1 on", b.foresee(240, 3), 6);
        Check.same("the ice itself", b.count(3), 1);
    }

    private static void foreseeTheHoursFrom7To0() {
        BridgeBells b = new BridgeBells();
        b.pass(240);
        b.pass(180);
        b.setCold(7, 1);
        b.setCold(0, 3);
        Check.same("the hour 7", b.foresee(1, 3), 1);
        Check.same("the hour 7 alone", b.foresee(60, 3), 1);
        Check.same("the hour 0 behind it", b.foresee(61, 3), 4);
    }

    private static void foreseeTheHeldIce() {
        BridgeBells b = TermsEdgesTest.withIce(8);
        b.setCold(3, 3);
        b.setCold(4, -2);
        Check.same("held at 9", b.foresee(60, 3), 9);
        Check.same("2 less than held", b.foresee(120, 3), 7);
        BridgeBells c = TermsEdgesTest.withIce(2);
        c.setCold(3, -3);
        c.setCold(4, 2);
        Check.same("held at 0", c.foresee(60, 3), 0);
        Check.same("2 more than held", c.foresee(120, 3), 2);
    }

    private static void bestCodeOfNoneIs0() {
        for (int minutes : SPANS) {
            Check.same("of none: bestCode(" + minutes + ")", new BridgeBells().bestCode(minutes), 0);
            Check.same("all passed: bestCode(" + minutes + ")",
                    Position.ALL_HAVE_PASSED.make().bestCode(minutes), 0);
            Check.same("all 40 away: bestCode(" + minutes + ")",
                    Position.FORTY_WENT_AWAY.make().bestCode(minutes), 0);
        }
    }

    /** Code 4 itself never has all wait fewer minutes, and is never answered. */
    private static void bestCodeIs0To3ThoughCode4IsRung() {
        BridgeBells b = new BridgeBells();
        b.come(true, 1);
        b.come(false, 1);
        b.ring(4);
        Check.same("code 4 rung: bestCode(240)", b.bestCode(240), 2);
        Check.same("code 4 rung: bestCode(1)", b.bestCode(1), 2);
        b.leave(1);
        Check.same("code 4 rung, a barge alone: bestCode(240)", b.bestCode(240), 0);
        Check.same("code 4 is still rung", b.count(4), 4);
    }

    private static void bestCodeOfSeveralIsTheLeast() {
        BridgeBells barge = Position.BARGE_WAITS.make();
        barge.ring(3);
        Check.same("a barge alone: all codes are the same", barge.bestCode(240), 0);
        BridgeBells both = new BridgeBells();
        both.come(true, 1);
        both.come(true, 1);
        both.come(false, 1);
        both.pass(20);
        Check.same("0 and 1 are the best, the bridge up", both.bestCode(60), 0);
        BridgeBells later = new BridgeBells();
        later.come(true, 1);
        later.pass(20);
        later.leave(0);
        later.come(false, 1);
        later.come(true, 1);
        Check.same("1 and 3 are the best, the bridge up", later.bestCode(60), 1);
        BridgeBells cart = new BridgeBells();
        cart.come(true, 1);
        cart.pass(21);
        cart.come(true, 1);
        cart.come(false, 1);
        cart.ring(2);
        cart.pass(15);
        Check.same("2 and 3 are the best, the bridge down", cart.bestCode(60), 2);
    }

    private static void bestPoiseOfNoneIs0() {
        for (int minutes : SPANS) {
            Check.same("of none: bestPoise(" + minutes + ")", new BridgeBells().bestPoise(minutes), 0);
            Check.same("all passed: bestPoise(" + minutes + ")",
                    Position.ALL_HAVE_PASSED.make().bestPoise(minutes), 0);
            Check.same("nobody served: bestPoise(" + minutes + ")",
                    Position.NOBODY_IS_SERVED.make().bestPoise(minutes), 0);
        }
    }

    /** A barge alone is best served by the fastest way up, 30, a cart alone by the fastest way down, 0. */
    private static void bestPoiseFrom0To30() {
        BridgeBells barge = Position.BARGE_WAITS.make();
        Check.same("10 minutes are the way up by 6", barge.bestPoise(10), 0);
        Check.same("in the 11th it passes", barge.bestPoise(11), 30);
        Check.same("in the longest", barge.bestPoise(240), 30);
        BridgeBells cart = new BridgeBells();
        cart.come(true, 1);
        cart.pass(21);
        cart.poise(30);
        cart.come(false, 1);
        Check.same("down by 6", cart.bestPoise(240), 0);
    }

    private static void bestPoiseHoweverTheBridgeStands() {
        int[] minutes = {1, 10, 15, 17, 18, 19, 20};
        int[] due = {30, 30, 24, 24, 30, 12, 0};
        for (int i = 0; i < minutes.length; i++) {
            BridgeBells b = Position.BARGE_WAITS.make();
            b.pass(minutes[i]);
            int counterpoise = b.count(2);
            Check.same("up to " + b.count(1) + ": bestPoise(240)", b.bestPoise(240), due[i]);
            Check.same("the counterpoise is left as it was", b.count(2), counterpoise);
        }
    }

    private static void bestPoiseOfSeveralIsTheLeast() {
        BridgeBells b = Position.BRIDGE_UP.make();
        b.leave(1);
        Check.same("the bridge is up for the barge: all are the same", b.bestPoise(240), 0);
        BridgeBells near = Position.BARGE_WAITS.make();
        near.pass(19);
        Check.same("57, by 3 or more in a minute", near.bestPoise(240), 12);
    }

    private static void meanOfNoneIs0() {
        BridgeBells b = new BridgeBells();
        Check.sameDouble("mean() of none", b.mean(), 0);
        b.pass(240);
        Check.sameDouble("mean() of none behind 240 minutes", b.mean(), 0);
        b.come(true, 1);
        Check.sameDouble("mean() of one that just came", b.mean(), 0);
    }

    private static void meanIsNotCut() {
        BridgeBells b = new BridgeBells();
        b.come(false, 1);
        b.come(false, 1);
        b.come(true, 1);
        b.leave(2);
        b.pass(9);
        Check.sameDouble("mean() of 1 minute and 3 travellers", b.mean(), 1 / 3.0);
    }

    private static void meanOfAll40() {
        BridgeBells b = Position.FORTY_WAIT.make();
        b.ring(4);
        b.pass(240);
        Check.sameDouble("mean() of 40 that wait 240 minutes", b.mean(), 240);
        for (int traveller = 0; traveller < 40; traveller++) {
            b.leave(traveller);
        }
        b.pass(240);
        Check.sameDouble("mean() of 40 that went away then", b.mean(), 240);
    }

    /** Reckoned outside of Java, from 20 numbers, which already lead beyond 64 bits. */
    private static void digestOfANewObject() {
        Check.same("digest() of a new object", new BridgeBells().digest(), -3354077279167085778L);
    }

    /** Reckoned outside of Java too, from 300 numbers. */
    private static void digestBeyond64Bits() {
        Check.same("digest() of 40 that wait", Position.FORTY_WAIT.make().digest(), -3909804940711594475L);
    }
}
