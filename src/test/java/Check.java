import java.util.List;
import java.util.function.Consumer;

/** Compares answers with those that are due, and counts the wrong ones. */
final class Check {
    private static int wrong = 0;

    private Check() {
    }

    static void same(String what, long got, long due) {
        if (got != due) {
            tellWrong(what + " answered " + got + ", due is " + due);
        }
    }

    static void sameDouble(String what, double got, double due) {
        if (got != due) {
            tellWrong(what + " answered " + got + ", due is " + due);
        }
    }

    /** The call throws exactly this, and nothing that can be asked of the bridge changes by it. */
    static void refused(String what, BridgeBells bells, Class<?> due, Runnable call) {
        long before = allThatCanBeAsked(bells);
        Class<?> thrown = null;
        try {
            call.run();
        } catch (RuntimeException e) {
            thrown = e.getClass();
        }
        if (thrown != due) {
            tellWrong(what + " throws " + thrown + ", due is " + due);
        }
        same(what + ": what can be asked behind it", allThatCanBeAsked(bells), before);
    }

    static void unchanged(String what, BridgeBells bells, Runnable call) {
        long before = allThatCanBeAsked(bells);
        call.run();
        same(what + ": what can be asked behind it", allThatCanBeAsked(bells), before);
    }

    /** The call throws exactly this, and leaves everything as it would be without the call. */
    static void refusedIn(Position position, String what, Class<?> due, Consumer<BridgeBells> call) {
        BridgeBells bells = position.make();
        String name = what + " in " + position;
        Class<?> thrown = thrownBy(bells, call);
        if (thrown != due) {
            tellWrong(name + " throws " + thrown + ", due is " + due);
        }
        sameAnswers(name, bells, position.make());
    }

    /** The call answers, and leaves everything as it would be without the call. */
    static void unchangedIn(Position position, String what, Consumer<BridgeBells> call) {
        refusedIn(position, what, null, call);
    }

    static void sameAnswers(String what, BridgeBells got, BridgeBells due) {
        List<String> answers = Answers.of(got);
        List<String> dueAnswers = Answers.of(due);
        if (answers.size() != dueAnswers.size()) {
            tellWrong(what + ": other travellers are there behind it");
            return;
        }
        for (int i = 0; i < answers.size(); i++) {
            if (!answers.get(i).equals(dueAnswers.get(i))) {
                tellWrong(what + ": behind it " + answers.get(i) + ", without it " + dueAnswers.get(i));
                return;
            }
        }
    }

    /** The class of what the call throws, null for nothing. */
    static Class<?> thrownBy(BridgeBells bells, Consumer<BridgeBells> call) {
        try {
            call.accept(bells);
            return null;
        } catch (RuntimeException e) {
            return e.getClass();
        }
    }

    /** Ends the test: with exit code 1 if an answer was wrong. */
    static void end() {
        System.out.println(wrong == 0 ? "all answers are as due" : wrong + " answers are not as due");
        if (wrong != 0) {
            System.exit(1);
        }
    }

    private static long allThatCanBeAsked(BridgeBells bells) {
        long sum = bells.digest();
        sum = sum * 31 + bells.speed(true);
        sum = sum * 31 + bells.speed(false);
        sum = sum * 31 + Double.doubleToLongBits(bells.mean());
        for (int what = 0; what < 4; what++) {
            sum = sum * 31 + bells.foresee(70, what);
        }
        for (int traveller = 0; traveller < bells.count(5); traveller++) {
            sum = sum * 31 + bells.when(traveller);
        }
        return sum;
    }

    private static void tellWrong(String text) {
        wrong++;
        if (wrong <= 50) {
            System.out.println(text);
        }
    }
}
