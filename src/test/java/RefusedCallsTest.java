import java.util.function.Consumer;

/**
 * Every sentence that tells an exception: the first values that are refused, at both ends, in every
 * position, by exactly the class that is named (first, if several apply); and nothing is changed.
 */
public final class RefusedCallsTest {
    private static final Class<?> ARGUMENT = IllegalArgumentException.class;
    private static final Class<?> STATE = IllegalStateException.class;
    private static final Class<?> INDEX = IndexOutOfBoundsException.class;

    private static final int LEAST = Integer.MIN_VALUE;
    private static final int GREATEST = Integer.MAX_VALUE;
    private static final int[] NO_NEEDS = {0, 7, -1, LEAST, GREATEST};
    private static final int[] NO_CODES = {-1, 5, LEAST, GREATEST};
    private static final int[] NO_COUNTERPOISES = {-1, 31, 60, LEAST, GREATEST};
    private static final int[] NO_HOURS = {-1, 8, LEAST, GREATEST};
    private static final int[] NO_COLDS = {-4, 4, LEAST, GREATEST};
    private static final int[] NO_SPANS = {0, 241, -1, 400, LEAST, GREATEST};
    private static final int[] NO_FACTS = {-1, 7, LEAST, GREATEST};
    private static final int[] NO_COUNTS = {-1, 12, LEAST, GREATEST};
    private static final int[] NO_FORESIGHTS = {-1, 4, LEAST, GREATEST};

    public static void main(String[] args) {
        for (Position position : Position.values()) {
            comeWithMinutesNot1To6(position);
            comeIfThereAre40(position);
            leaveOfNoSuchTraveller(position);
            leaveOfOneThatDoesNotWait(position);
            ringACodeNot0To4(position);
            poiseNot0To30(position);
            poiseWhileNeitherUpNorDown(position);
            setColdOfAnHourNot0To7(position);
            setColdNotMinus3To3(position);
            travellerOfNoSuchTraveller(position);
            travellerWithWhatNot0To6(position);
            countWithWhatNot0To11(position);
            passMinutesNot1To240(position);
            whenOfNoSuchTraveller(position);
            foreseeMinutesNot1To240(position);
            foreseeWhatNot0To3(position);
            bestCodeMinutesNot1To240(position);
            bestPoiseMinutesNot1To240(position);
        }
        everyAngleBetweenRefusesPoise();
        Check.end();
    }

    /** Also if there are 40: of several exceptions the one that is named first. */
    private static void comeWithMinutesNot1To6(Position position) {
        for (int minutes : NO_NEEDS) {
            refused(position, "come(true, " + minutes + ")", ARGUMENT, b -> b.come(true, minutes));
            refused(position, "come(false, " + minutes + ")", ARGUMENT, b -> b.come(false, minutes));
        }
    }

    private static void comeIfThereAre40(Position position) {
        if (position.travellers() < 40) {
            return;
        }
        for (int minutes = 1; minutes <= 6; minutes++) {
            int needed = minutes;
            refused(position, "come(true, " + needed + ")", STATE, b -> b.come(true, needed));
            refused(position, "come(false, " + needed + ")", STATE, b -> b.come(false, needed));
        }
    }

    private static void leaveOfNoSuchTraveller(Position position) {
        for (int traveller : nobodiesNumbers(position)) {
            refused(position, "leave(" + traveller + ")", INDEX, b -> b.leave(traveller));
        }
    }

    private static void leaveOfOneThatDoesNotWait(Position position) {
        for (int traveller = 0; traveller < position.travellers(); traveller++) {
            int one = traveller;
            if (position.make().traveller(one, 2) != 0) {
                refused(position, "leave(" + one + ")", STATE, b -> b.leave(one));
            }
        }
    }

    private static void ringACodeNot0To4(Position position) {
        for (int code : NO_CODES) {
            refused(position, "ring(" + code + ")", ARGUMENT, b -> b.ring(code));
        }
    }

    /** Also while the bridge is neither up nor down: of several exceptions the one that is named first. */
    private static void poiseNot0To30(Position position) {
        for (int counterpoise : NO_COUNTERPOISES) {
            refused(position, "poise(" + counterpoise + ")", ARGUMENT, b -> b.poise(counterpoise));
        }
    }

    private static void poiseWhileNeitherUpNorDown(Position position) {
        if (position.angle() == 0 || position.angle() == 60) {
            return;
        }
        for (int counterpoise : new int[] {0, 15, 30}) {
            refused(position, "poise(" + counterpoise + ")", STATE, b -> b.poise(counterpoise));
        }
    }

    /** Also with a cold that is none: of several exceptions the one that is named first. */
    private static void setColdOfAnHourNot0To7(Position position) {
        for (int hour : NO_HOURS) {
            for (int cold : new int[] {0, -3, 3, -4, 4, LEAST, GREATEST}) {
                refused(position, "setCold(" + hour + ", " + cold + ")", INDEX, b -> b.setCold(hour, cold));
            }
        }
    }

    private static void setColdNotMinus3To3(Position position) {
        for (int cold : NO_COLDS) {
            refused(position, "setCold(0, " + cold + ")", ARGUMENT, b -> b.setCold(0, cold));
            refused(position, "setCold(7, " + cold + ")", ARGUMENT, b -> b.setCold(7, cold));
        }
    }

    /** Also with a what that is none. */
    private static void travellerOfNoSuchTraveller(Position position) {
        for (int traveller : nobodiesNumbers(position)) {
            for (int what : new int[] {0, 6, -1, 7}) {
                refused(position, "traveller(" + traveller + ", " + what + ")", INDEX,
                        b -> b.traveller(traveller, what));
            }
        }
    }

    private static void travellerWithWhatNot0To6(Position position) {
        int travellers = position.travellers();
        if (travellers == 0) {
            return;
        }
        for (int what : NO_FACTS) {
            refused(position, "traveller(0, " + what + ")", INDEX, b -> b.traveller(0, what));
            refused(position, "traveller of the last, " + what, INDEX, b -> b.traveller(travellers - 1, what));
        }
    }

    private static void countWithWhatNot0To11(Position position) {
        for (int what : NO_COUNTS) {
            refused(position, "count(" + what + ")", INDEX, b -> b.count(what));
        }
    }

    private static void passMinutesNot1To240(Position position) {
        for (int minutes : NO_SPANS) {
            refused(position, "pass(" + minutes + ")", ARGUMENT, b -> b.pass(minutes));
        }
    }

    private static void whenOfNoSuchTraveller(Position position) {
        for (int traveller : nobodiesNumbers(position)) {
            refused(position, "when(" + traveller + ")", INDEX, b -> b.when(traveller));
        }
    }

    /** Also with a what that is none: of several exceptions the one that is named first. */
    private static void foreseeMinutesNot1To240(Position position) {
        for (int minutes : NO_SPANS) {
            for (int what : new int[] {0, 3, -1, 4, LEAST, GREATEST}) {
                refused(position, "foresee(" + minutes + ", " + what + ")", ARGUMENT,
                        b -> b.foresee(minutes, what));
            }
        }
    }

    private static void foreseeWhatNot0To3(Position position) {
        for (int what : NO_FORESIGHTS) {
            refused(position, "foresee(1, " + what + ")", INDEX, b -> b.foresee(1, what));
            refused(position, "foresee(240, " + what + ")", INDEX, b -> b.foresee(240, what));
        }
    }

    private static void bestCodeMinutesNot1To240(Position position) {
        for (int minutes : NO_SPANS) {
            refused(position, "bestCode(" + minutes + ")", ARGUMENT, b -> b.bestCode(minutes));
        }
    }

    private static void bestPoiseMinutesNot1To240(Position position) {
        for (int minutes : NO_SPANS) {
            refused(position, "bestPoise(" + minutes + ")", ARGUMENT, b -> b.bestPoise(minutes));
        }
    }

    /** From the first angle above 0 to the last below 60, on the way up and on the way down. */
    private static void everyAngleBetweenRefusesPoise() {
        for (int minutes = 0; minutes <= 60; minutes++) {
            boolean between = minutes > 0 && minutes < 60;
            BridgeBells up = goingUp(minutes);
            Check.same("the angle on the way up", up.count(1), minutes);
            poiseAtAnAngle(up, between);
            BridgeBells down = goingDown(minutes);
            Check.same("the angle on the way down", down.count(1), 60 - minutes);
            poiseAtAnAngle(down, between);
        }
    }

    private static void poiseAtAnAngle(BridgeBells b, boolean between) {
        String name = "poise(7) at an angle of " + b.count(1);
        int before = b.count(2);
        Class<?> thrown = Check.thrownBy(b, x -> x.poise(7));
        Check.same(name + " throws " + thrown + ", due is that it",
                thrown == STATE ? 1 : thrown == null ? 0 : 2, between ? 1 : 0);
        Check.same(name + ": the counterpoise behind it", b.count(2), between ? before : 7);
    }

    /** With a counterpoise of 0 the bridge goes up by 1. */
    private static BridgeBells goingUp(int minutes) {
        BridgeBells b = new BridgeBells();
        b.poise(0);
        b.come(true, 1);
        passIfAny(b, minutes);
        return b;
    }

    /** With a counterpoise of 30 the bridge goes down by 1. */
    private static BridgeBells goingDown(int minutes) {
        BridgeBells b = new BridgeBells();
        b.come(true, 1);
        b.pass(21);
        b.poise(30);
        b.come(false, 1);
        passIfAny(b, minutes);
        return b;
    }

    private static void passIfAny(BridgeBells b, int minutes) {
        if (minutes > 0) {
            b.pass(minutes);
        }
    }

    /** The numbers next to those that there are, and those farthest from them. */
    private static int[] nobodiesNumbers(Position position) {
        return new int[] {-1, position.travellers(), 40, 41, LEAST, GREATEST};
    }

    private static void refused(Position position, String what, Class<?> due, Consumer<BridgeBells> call) {
        Check.refusedIn(position, what, due, call);
    }
}
