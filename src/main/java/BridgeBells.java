/**
 * A drawbridge and its tender: barges and carts come, wait for the bridge to be raised or lowered,
 * and pass one after the other, as the code of the bell says.
 */
public final class BridgeBells {
    private static final int MOST_TRAVELLERS = 40;
    private static final int MOST_NEEDED = 6;
    private static final int MOST_MINUTES = 240;
    private static final int FARTHEST_SIGHT = 400;

    private static final int TRAVELLER_FACTS = 7;
    private static final int COUNTS = 12;
    private static final int FORESIGHTS = 4;

    private static final int DOWN = 0;
    private static final int UP = 60;
    private static final int MOST_COUNTERPOISE = 30;
    private static final int FIRST_COUNTERPOISE = 15;

    private static final int HOURS = 8;
    private static final int MINUTES_OF_AN_HOUR = 60;
    private static final int MOST_COLD = 3;
    private static final int MOST_ICE = 9;
    private static final int SLOWING_ICE = 5;
    private static final int CRACKED_ICE = 3;

    private static final int BY_NUMBER = 0;
    private static final int BARGES_FIRST = 1;
    private static final int CARTS_FIRST = 2;
    private static final int BY_TURNS = 3;
    private static final int SERVE_NOBODY = 4;

    private static final int WAITS = 0;
    private static final int PASSES = 1;
    private static final int HAS_PASSED = 2;
    private static final int WENT_AWAY = 3;

    private static final int NOBODY = -1;
    private static final int NEVER = -1;

    private final Bridge bridge;
    // What would be is tried out on this one, which is made once and used again by every such call.
    private final Bridge trial;

    public BridgeBells() {
        bridge = new Bridge();
        trial = new Bridge();
    }

    // ---- travellers and the bridge

    public int come(boolean barge, int minutes) throws IllegalArgumentException, IllegalStateException {
        if (minutes < 1 || minutes > MOST_NEEDED) {
            throw new IllegalArgumentException("minutes is not 1 to 6");
        }
        if (bridge.travellers.number >= MOST_TRAVELLERS) {
            throw new IllegalStateException("there are 40 travellers");
        }
        return bridge.travellers.add(barge, minutes, bridge.minute);
    }

    public int leave(int traveller) throws IndexOutOfBoundsException, IllegalStateException {
        if (!bridge.travellers.has(traveller)) {
            throw new IndexOutOfBoundsException("there is no such traveller");
        }
        if (bridge.travellers.state[traveller] != WAITS) {
            throw new IllegalStateException("the traveller does not wait");
        }
        bridge.travellers.endWait(traveller, WENT_AWAY, bridge.minute);
        return bridge.travellers.waited(traveller, bridge.minute);
    }

    public int ring(int code) throws IllegalArgumentException {
        if (code < BY_NUMBER || code > SERVE_NOBODY) {
            throw new IllegalArgumentException("code is not 0 to 4");
        }
        int before = bridge.code;
        bridge.code = code;
        return before;
    }

    public int poise(int counterpoise) throws IllegalArgumentException, IllegalStateException {
        if (counterpoise < 0 || counterpoise > MOST_COUNTERPOISE) {
            throw new IllegalArgumentException("counterpoise is not 0 to 30");
        }
        if (bridge.angle != DOWN && bridge.angle != UP) {
            throw new IllegalStateException("the bridge is neither up nor down");
        }
        int before = bridge.counterpoise;
        bridge.counterpoise = counterpoise;
        return before;
    }

    public int setCold(int hour, int cold) throws IndexOutOfBoundsException, IllegalArgumentException {
        if (hour < 0 || hour >= HOURS) {
            throw new IndexOutOfBoundsException("hour is not 0 to 7");
        }
        if (cold < -MOST_COLD || cold > MOST_COLD) {
            throw new IllegalArgumentException("cold is not -3 to 3");
        }
        int before = bridge.cold[hour];
        bridge.cold[hour] = cold;
        return before;
    }

    public int crack() {
        bridge.ice = Math.max(0, bridge.ice - CRACKED_ICE);
        return bridge.ice;
    }

    // ---- what is there

    public int traveller(int traveller, int what) throws IndexOutOfBoundsException {
        if (!bridge.travellers.has(traveller)) {
            throw new IndexOutOfBoundsException("there is no such traveller");
        }
        if (what < 0 || what >= TRAVELLER_FACTS) {
            throw new IndexOutOfBoundsException("what is not 0 to 6");
        }
        return bridge.factOf(traveller, what);
    }

    public int count(int what) throws IndexOutOfBoundsException {
        if (what < 0 || what >= COUNTS) {
            throw new IndexOutOfBoundsException("what is not 0 to 11");
        }
        return bridge.total(what);
    }

    public int speed(boolean up) {
        return bridge.speedTowards(up);
    }

    // ---- minutes

    public int pass(int minutes) throws IllegalArgumentException {
        if (!isSpan(minutes)) {
            throw new IllegalArgumentException("minutes is not 1 to 240");
        }
        int before = bridge.travellers.passed;
        bridge.goOn(minutes);
        return bridge.travellers.passed - before;
    }

    // ---- what would be

    public int when(int traveller) throws IndexOutOfBoundsException {
        if (!bridge.travellers.has(traveller)) {
            throw new IndexOutOfBoundsException("there is no such traveller");
        }
        trial.copyFrom(bridge);
        for (int behind = 0; behind <= FARTHEST_SIGHT; behind++) {
            if (trial.travellers.state[traveller] == HAS_PASSED) {
                return behind;
            }
            trial.goOneMinute();
        }
        return NEVER;
    }

    public int foresee(int minutes, int what) throws IllegalArgumentException, IndexOutOfBoundsException {
        if (!isSpan(minutes)) {
            throw new IllegalArgumentException("minutes is not 1 to 240");
        }
        if (what < 0 || what >= FORESIGHTS) {
            throw new IndexOutOfBoundsException("what is not 0 to 3");
        }
        trial.copyFrom(bridge);
        trial.goOn(minutes);
        switch (what) {
            case 0:
                return trial.travellers.passed - bridge.travellers.passed;
            case 1:
                return trial.waitedInAll - bridge.waitedInAll;
            case 2:
                return trial.angle;
            default:
                return trial.ice;
        }
    }

    public int bestCode(int minutes) throws IllegalArgumentException {
        if (!isSpan(minutes)) {
            throw new IllegalArgumentException("minutes is not 1 to 240");
        }
        int best = BY_NUMBER;
        int fewest = waitWith(best, bridge.counterpoise, minutes);
        for (int code = best + 1; code <= BY_TURNS; code++) {
            int wait = waitWith(code, bridge.counterpoise, minutes);
            if (wait < fewest) {
                fewest = wait;
                best = code;
            }
        }
        return best;
    }

    public int bestPoise(int minutes) throws IllegalArgumentException {
        if (!isSpan(minutes)) {
            throw new IllegalArgumentException("minutes is not 1 to 240");
        }
        int best = 0;
        int fewest = waitWith(bridge.code, best, minutes);
        for (int counterpoise = best + 1; counterpoise <= MOST_COUNTERPOISE; counterpoise++) {
            int wait = waitWith(bridge.code, counterpoise, minutes);
            if (wait < fewest) {
                fewest = wait;
                best = counterpoise;
            }
        }
        return best;
    }

    public double mean() {
        int number = bridge.travellers.number;
        if (number == 0) {
            return 0;
        }
        return (double) bridge.waitedInAll / number;
    }

    public long digest() {
        long d = 1021;
        for (int what = 0; what < COUNTS; what++) {
            d = d * 31 + bridge.total(what);
        }
        for (int hour = 0; hour < HOURS; hour++) {
            d = d * 31 + bridge.cold[hour];
        }
        for (int traveller = 0; traveller < bridge.travellers.number; traveller++) {
            for (int what = 0; what < TRAVELLER_FACTS; what++) {
                d = d * 31 + bridge.factOf(traveller, what);
            }
        }
        return d;
    }

    private static boolean isSpan(int minutes) {
        return minutes >= 1 && minutes <= MOST_MINUTES;
    }

    /** The minutes that all would wait, added, if the code and the counterpoise were these from now on. */
    private int waitWith(int code, int counterpoise, int minutes) {
        trial.copyFrom(bridge);
        trial.code = code;
        trial.counterpoise = counterpoise;
        trial.goOn(minutes);
        return trial.waitedInAll - bridge.waitedInAll;
    }

    /** The bridge with its canal, its bell and its travellers, and how a minute goes there. */
    private static final class Bridge {
        int minute = 0;
        int angle = DOWN;
        int counterpoise = FIRST_COUNTERPOISE;
        int ice = 0;
        int code = BY_NUMBER;
        int waitedInAll = 0;
        final int[] cold = new int[HOURS];
        final Travellers travellers = new Travellers();

        private int passing = NOBODY;
        private int toGo = 0;
        private boolean latestWasBarge = false;

        void copyFrom(Bridge other) {
            minute = other.minute;
            angle = other.angle;
            counterpoise = other.counterpoise;
            ice = other.ice;
            code = other.code;
            waitedInAll = other.waitedInAll;
            System.arraycopy(other.cold, 0, cold, 0, HOURS);
            travellers.copyFrom(other.travellers);
            passing = other.passing;
            toGo = other.toGo;
            latestWasBarge = other.latestWasBarge;
        }

        void goOn(int minutes) {
            for (int gone = 0; gone < minutes; gone++) {
                goOneMinute();
            }
        }

        void goOneMinute() {
            serve(servedNext());
            goOnPassing();
            waitedInAll += travellers.bargesWaiting + travellers.cartsWaiting;
            freeze();
            minute++;
        }

        int speedTowards(boolean up) {
            int lift = counterpoise / 6;
            int full = up ? 1 + lift : 6 - lift;
            return ice >= SLOWING_ICE ? Math.max(1, full / 2) : full;
        }

        /** The one that the code serves next, or NOBODY, as long as somebody passes. */
        int servedNext() {
            if (passing != NOBODY) {
                return NOBODY;
            }
            switch (code) {
                case BY_NUMBER:
                    return travellers.firstOfAll();
                case BARGES_FIRST:
                    return travellers.firstBargeElseCart();
                case CARTS_FIRST:
                    return travellers.firstCartElseBarge();
                case BY_TURNS:
                    return latestWasBarge ? travellers.firstCartElseBarge() : travellers.firstBargeElseCart();
                default:
                    return NOBODY;
            }
        }

        private void serve(int traveller) {
            if (!travellers.has(traveller)) {
                return;
            }
            boolean barge = travellers.barge[traveller] == 1;
            if (angle == (barge ? UP : DOWN)) {
                passing = traveller;
                toGo = travellers.needs[traveller];
                latestWasBarge = barge;
                travellers.endWait(traveller, PASSES, minute);
            } else if (barge) {
                angle = Math.min(UP, angle + speedTowards(true));
            } else {
                angle = Math.max(DOWN, angle - speedTowards(false));
            }
        }

        private void goOnPassing() {
            if (!travellers.has(passing)) {
                return;
            }
            toGo--;
            if (toGo <= 0) {
                travellers.endPassage(passing, minute);
                passing = NOBODY;
            }
        }

        private void freeze() {
            if (minute % MINUTES_OF_AN_HOUR != 0) {
                return;
            }
            // floorMod, so that no minute whatever leads out of the table.
            int hour = Math.floorMod(minute / MINUTES_OF_AN_HOUR, HOURS);
            ice = Math.max(0, Math.min(MOST_ICE, ice + cold[hour]));
        }

        /** What the face's count() tells. */
        int total(int what) {
            switch (what) {
                case 0:
                    return minute;
                case 1:
                    return angle;
                case 2:
                    return counterpoise;
                case 3:
                    return ice;
                case 4:
                    return code;
                case 5:
                    return travellers.number;
                case 6:
                    return travellers.bargesWaiting;
                case 7:
                    return travellers.cartsWaiting;
                case 8:
                    return travellers.passed;
                case 9:
                    return waitedInAll;
                case 10:
                    return passing;
                default:
                    return servedNext();
            }
        }

        /** What the face's traveller() tells of a traveller that there is. */
        int factOf(int traveller, int what) {
            switch (what) {
                case 0:
                    return travellers.barge[traveller];
                case 1:
                    return travellers.needs[traveller];
                case 2:
                    return travellers.state[traveller];
                case 3:
                    return travellers.came[traveller];
                case 4:
                    return travellers.waited(traveller, minute);
                case 5:
                    return traveller == passing ? toGo : 0;
                default:
                    return travellers.passedIn[traveller];
            }
        }
    }

    /** All travellers in the order of their coming, and who of them waits. */
    private static final class Travellers {
        int number = 0;
        int passed = 0;
        int bargesWaiting = 0;
        int cartsWaiting = 0;
        final int[] barge = new int[MOST_TRAVELLERS];
        final int[] needs = new int[MOST_TRAVELLERS];
        final int[] state = new int[MOST_TRAVELLERS];
        final int[] came = new int[MOST_TRAVELLERS];
        final int[] passedIn = new int[MOST_TRAVELLERS];

        // Whoever waits does so in every minute: when it came and when it ended tell how long.
        private final int[] waitEnd = new int[MOST_TRAVELLERS];
        private int firstBarge = NOBODY;
        private int firstCart = NOBODY;

        void copyFrom(Travellers other) {
            number = other.number;
            passed = other.passed;
            bargesWaiting = other.bargesWaiting;
            cartsWaiting = other.cartsWaiting;
            System.arraycopy(other.barge, 0, barge, 0, MOST_TRAVELLERS);
            System.arraycopy(other.needs, 0, needs, 0, MOST_TRAVELLERS);
            System.arraycopy(other.state, 0, state, 0, MOST_TRAVELLERS);
            System.arraycopy(other.came, 0, came, 0, MOST_TRAVELLERS);
            System.arraycopy(other.passedIn, 0, passedIn, 0, MOST_TRAVELLERS);
            System.arraycopy(other.waitEnd, 0, waitEnd, 0, MOST_TRAVELLERS);
            firstBarge = other.firstBarge;
            firstCart = other.firstCart;
        }

        boolean has(int traveller) {
            return traveller >= 0 && traveller < number;
        }

        /** Adds one that waits, where there is room for it, and returns its number. */
        int add(boolean isBarge, int minutes, int minute) {
            int added = number;
            barge[added] = isBarge ? 1 : 0;
            needs[added] = minutes;
            state[added] = WAITS;
            came[added] = minute;
            passedIn[added] = NEVER;
            number++;
            seeWhoWaits();
            return added;
        }

        void endWait(int traveller, int newState, int minute) {
            state[traveller] = newState;
            waitEnd[traveller] = minute;
            seeWhoWaits();
        }

        void endPassage(int traveller, int minute) {
            state[traveller] = HAS_PASSED;
            passedIn[traveller] = minute;
            passed++;
        }

        int waited(int traveller, int minute) {
            int end = state[traveller] == WAITS ? minute : waitEnd[traveller];
            return end - came[traveller];
        }

        int firstOfAll() {
            if (firstBarge == NOBODY) {
                return firstCart;
            }
            return firstCart == NOBODY ? firstBarge : Math.min(firstBarge, firstCart);
        }

        int firstBargeElseCart() {
            return firstBarge != NOBODY ? firstBarge : firstCart;
        }

        int firstCartElseBarge() {
            return firstCart != NOBODY ? firstCart : firstBarge;
        }

        /** Who waits changes far more seldom than it is asked for, so it is kept. */
        private void seeWhoWaits() {
            bargesWaiting = 0;
            cartsWaiting = 0;
            firstBarge = NOBODY;
            firstCart = NOBODY;
            for (int traveller = number - 1; traveller >= 0; traveller--) {
                if (state[traveller] != WAITS) {
                    continue;
                }
                if (barge[traveller] == 1) {
                    bargesWaiting++;
                    firstBarge = traveller;
                } else {
                    cartsWaiting++;
                    firstCart = traveller;
                }
            }
        }
    }
}
