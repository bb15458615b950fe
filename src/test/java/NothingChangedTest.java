/** Every call of which the document says that nothing is changed, or that only tells, in every position. */
public final class NothingChangedTest {
    private static final int[] SPANS = {1, 60, 61, 240};

    public static void main(String[] args) {
        for (Position position : Position.values()) {
            travellerTellsOnly(position);
            countTellsOnly(position);
            speedTellsOnly(position);
            whenChangesNothing(position);
            foreseeChangesNothing(position);
            bestCodeChangesNothing(position);
            bestPoiseChangesNothing(position);
            meanAndDigestTellOnly(position);
            manyInTurnChangeNothing(position);
            answersAreTheSameInAnyOrder(position);
        }
        Check.end();
    }

    private static void travellerTellsOnly(Position position) {
        for (int traveller = 0; traveller < position.travellers(); traveller++) {
            int one = traveller;
            Check.unchangedIn(position, "all of traveller " + one, b -> {
                for (int what = 0; what < 7; what++) {
                    b.traveller(one, what);
                }
            });
        }
    }

    private static void countTellsOnly(Position position) {
        for (int what = 0; what < 12; what++) {
            int asked = what;
            Check.unchangedIn(position, "count(" + what + ")", b -> b.count(asked));
        }
    }

    private static void speedTellsOnly(Position position) {
        Check.unchangedIn(position, "speed(true)", b -> b.speed(true));
        Check.unchangedIn(position, "speed(false)", b -> b.speed(false));
    }

    private static void whenChangesNothing(Position position) {
        for (int traveller = 0; traveller < position.travellers(); traveller++) {
            int one = traveller;
            Check.unchangedIn(position, "when(" + one + ")", b -> b.when(one));
        }
    }

    private static void foreseeChangesNothing(Position position) {
        for (int minutes : SPANS) {
            for (int what = 0; what < 4; what++) {
                int asked = what;
                Check.unchangedIn(position, "foresee(" + minutes + ", " + what + ")",
                        b -> b.foresee(minutes, asked));
            }
        }
    }

    private static void bestCodeChangesNothing(Position position) {
        for (int minutes : SPANS) {
            Check.unchangedIn(position, "bestCode(" + minutes + ")", b -> b.bestCode(minutes));
        }
    }

    private static void bestPoiseChangesNothing(Position position) {
        for (int minutes : SPANS) {
            Check.unchangedIn(position, "bestPoise(" + minutes + ")", b -> b.bestPoise(minutes));
        }
    }

    private static void meanAndDigestTellOnly(Position position) {
        Check.unchangedIn(position, "mean()", BridgeBells::mean);
        Check.unchangedIn(position, "digest()", BridgeBells::digest);
    }

    private static void manyInTurnChangeNothing(Position position) {
        Check.unchangedIn(position, "all that only tells", b -> {
            b.bestPoise(240);
            b.foresee(61, 3);
            b.bestCode(240);
            b.digest();
            b.foresee(240, 1);
            b.mean();
        });
    }

    /** What was asked before leaves no trace in what is answered then. */
    private static void answersAreTheSameInAnyOrder(Position position) {
        for (int minutes : SPANS) {
            BridgeBells b = position.make();
            b.foresee(240, 0);
            int code = b.bestCode(minutes);
            b.bestPoise(240);
            Check.same("bestCode(" + minutes + ") asked first in " + position,
                    position.make().bestCode(minutes), code);
            Check.same("bestCode(" + minutes + ") asked later in " + position, b.bestCode(minutes), code);
            int poise = position.make().bestPoise(minutes);
            Check.same("bestPoise(" + minutes + ") asked later in " + position, b.bestPoise(minutes), poise);
        }
    }
}
