import java.util.ArrayList;
import java.util.List;

/** Everything that an object answers, a line for each call; some 400 of its 512 calls. */
final class Answers {
    private static final int[] SPANS = {1, 61, 240};

    private final List<String> lines = new ArrayList<>();

    private Answers() {
    }

    /** What can be asked, and then how the object goes on: what it holds and doesn't tell shows there. */
    static List<String> of(BridgeBells bells) {
        Answers answers = new Answers();
        answers.whatIsThere(bells);
        answers.whatWouldBe(bells);
        answers.howItGoesOn(bells);
        return answers.lines;
    }

    private void whatIsThere(BridgeBells bells) {
        add("digest()", bells.digest());
        for (int what = 0; what < 12; what++) {
            add("count(" + what + ")", bells.count(what));
        }
        add("speed(true)", bells.speed(true));
        add("speed(false)", bells.speed(false));
        add("mean()", Double.doubleToLongBits(bells.mean()));
        int travellers = bells.count(5);
        for (int traveller = 0; traveller < travellers; traveller++) {
            for (int what = 0; what < 7; what++) {
                add("traveller(" + traveller + ", " + what + ")", bells.traveller(traveller, what));
            }
        }
    }

    private void whatWouldBe(BridgeBells bells) {
        int travellers = bells.count(5);
        for (int traveller = 0; traveller < travellers; traveller++) {
            add("when(" + traveller + ")", bells.when(traveller));
        }
        for (int minutes : SPANS) {
            for (int what = 0; what < 4; what++) {
                add("foresee(" + minutes + ", " + what + ")", bells.foresee(minutes, what));
            }
            add("bestCode(" + minutes + ")", bells.bestCode(minutes));
            add("bestPoise(" + minutes + ")", bells.bestPoise(minutes));
        }
    }

    private void howItGoesOn(BridgeBells bells) {
        for (int code = 3; code >= 0; code--) {
            add("then ring(" + code + ")", bells.ring(code));
            add("then count(11)", bells.count(11));
            add("then pass(11)", bells.pass(11));
            add("then digest()", bells.digest());
        }
        for (int hour = 0; hour < 8; hour++) {
            add("then setCold(" + hour + ", 0)", bells.setCold(hour, 0));
        }
    }

    private void add(String call, long answer) {
        lines.add(call + " answers " + answer);
    }
}
