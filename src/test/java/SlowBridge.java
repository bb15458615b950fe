import java.util.ArrayList;
import java.util.List;

/** The document's words once more, as literally as they go, to compare the class with. */
final class SlowBridge {
    static final class Traveller {
        boolean barge;
        int needs;
        int state;
        int came;
        int waited;
        int toGo;
        int passedIn = -1;
    }

    int minute;
    int angle;
    int counterpoise = 15;
    int ice;
    int code;
    int[] cold = new int[8];
    List<Traveller> travellers = new ArrayList<>();
    Traveller latest;

    SlowBridge copy() {
        SlowBridge other = new SlowBridge();
        other.minute = minute;
        other.angle = angle;
        other.counterpoise = counterpoise;
        other.ice = ice;
        other.code = code;
        other.cold = cold.clone();
        for (Traveller t : travellers) {
            Traveller u = new Traveller();
            u.barge = t.barge;
            u.needs = t.needs;
            u.state = t.state;
            u.came = t.came;
            u.waited = t.waited;
            u.toGo = t.toGo;
            u.passedIn = t.passedIn;
            other.travellers.add(u);
            if (t == latest) {
                other.latest = u;
            }
        }
        return other;
    }

    int come(boolean barge, int minutes) {
        if (minutes < 1 || minutes > 6) {
            throw new IllegalArgumentException();
        }
        if (travellers.size() == 40) {
            throw new IllegalStateException();
        }
        Traveller t = new Traveller();
        t.barge = barge;
        t.needs = minutes;
        t.came = minute;
        travellers.add(t);
        return travellers.size() - 1;
    }

    int leave(int traveller) {
        Traveller t = at(traveller);
        if (t.state != 0) {
            throw new IllegalStateException();
        }
        t.state = 3;
        return t.waited;
    }

    int ring(int newCode) {
        if (newCode < 0 || newCode > 4) {
            throw new IllegalArgumentException();
        }
        int before = code;
        code = newCode;
        return before;
    }

    int poise(int newCounterpoise) {
        if (newCounterpoise < 0 || newCounterpoise > 30) {
            throw new IllegalArgumentException();
        }
        if (angle > 0 && angle < 60) {
            throw new IllegalStateException();
        }
        int before = counterpoise;
        counterpoise = newCounterpoise;
        return before;
    }

    int setCold(int hour, int newCold) {
        if (hour < 0 || hour > 7) {
            throw new IndexOutOfBoundsException();
        }
        if (newCold < -3 || newCold > 3) {
            throw new IllegalArgumentException();
        }
        int before = cold[hour];
        cold[hour] = newCold;
        return before;
    }

    int crack() {
        ice = ice < 3 ? 0 : ice - 3;
        return ice;
    }

    int traveller(int traveller, int what) {
        Traveller t = at(traveller);
        switch (what) {
            case 0: return t.barge ? 1 : 0;
            case 1: return t.needs;
            case 2: return t.state;
            case 3: return t.came;
            case 4: return t.waited;
            case 5: return t.state == 1 ? t.toGo : 0;
            case 6: return t.state == 2 ? t.passedIn : -1;
            default: throw new IndexOutOfBoundsException();
        }
    }

    int count(int what) {
        switch (what) {
            case 0: return minute;
            case 1: return angle;
            case 2: return counterpoise;
            case 3: return ice;
            case 4: return code;
            case 5: return travellers.size();
            case 6: return (int) travellers.stream().filter(t -> t.state == 0 && t.barge).count();
            case 7: return (int) travellers.stream().filter(t -> t.state == 0 && !t.barge).count();
            case 8: return (int) travellers.stream().filter(t -> t.state == 2).count();
            case 9: return travellers.stream().mapToInt(t -> t.waited).sum();
            case 10: return travellers.indexOf(onTheBridge());
            case 11: return onTheBridge() != null ? -1 : travellers.indexOf(served());
            default: throw new IndexOutOfBoundsException();
        }
    }

    int speed(boolean up) {
        int full = up ? 1 + counterpoise / 6 : 6 - counterpoise / 6;
        return ice < 5 ? full : full / 2 < 1 ? 1 : full / 2;
    }

    int pass(int minutes) {
        checkMinutes(minutes);
        int before = count(8);
        for (int i = 0; i < minutes; i++) {
            aMinute();
        }
        return count(8) - before;
    }

    int when(int traveller) {
        at(traveller);
        SlowBridge then = copy();
        for (int behind = 0; behind <= 400; behind++) {
            if (then.travellers.get(traveller).state == 2) {
                return behind;
            }
            then.aMinute();
        }
        return -1;
    }

    int foresee(int minutes, int what) {
        checkMinutes(minutes);
        if (what < 0 || what > 3) {
            throw new IndexOutOfBoundsException();
        }
        SlowBridge then = copy();
        int passed = then.pass(minutes);
        switch (what) {
            case 0: return passed;
            case 1: return then.count(9) - count(9);
            case 2: return then.angle;
            default: return then.ice;
        }
    }

    int bestCode(int minutes) {
        checkMinutes(minutes);
        int[] waits = new int[4];
        for (int c = 0; c < 4; c++) {
            SlowBridge then = copy();
            then.code = c;
            then.pass(minutes);
            waits[c] = then.count(9);
        }
        return firstLeast(waits);
    }

    int bestPoise(int minutes) {
        checkMinutes(minutes);
        int[] waits = new int[31];
        for (int c = 0; c < 31; c++) {
            SlowBridge then = copy();
            then.counterpoise = c;
            then.pass(minutes);
            waits[c] = then.count(9);
        }
        return firstLeast(waits);
    }

    double mean() {
        return travellers.isEmpty() ? 0 : (double) count(9) / travellers.size();
    }

    long digest() {
        long d = 1021;
        for (int what = 0; what <= 11; what++) {
            d = d * 31 + count(what);
        }
        for (int c : cold) {
            d = d * 31 + c;
        }
        for (int t = 0; t < travellers.size(); t++) {
            for (int what = 0; what <= 6; what++) {
                d = d * 31 + traveller(t, what);
            }
        }
        return d;
    }

    private void aMinute() {
        Traveller passing = onTheBridge();
        if (passing == null) {
            Traveller next = served();
            if (next != null && angle == (next.barge ? 60 : 0)) {
                next.state = 1;
                next.toGo = next.needs;
                latest = next;
                passing = next;
            } else if (next != null && next.barge) {
                angle = Math.min(60, angle + speed(true));
            } else if (next != null) {
                angle = Math.max(0, angle - speed(false));
            }
        }
        if (passing != null) {
            passing.toGo--;
            if (passing.toGo == 0) {
                passing.state = 2;
                passing.passedIn = minute;
            }
        }
        for (Traveller t : travellers) {
            if (t.state == 0) {
                t.waited++;
            }
        }
        if (minute % 60 == 0) {
            ice = Math.max(0, Math.min(9, ice + cold[minute / 60 % 8]));
        }
        minute++;
    }

    private Traveller onTheBridge() {
        for (Traveller t : travellers) {
            if (t.state == 1) {
                return t;
            }
        }
        return null;
    }

    private Traveller served() {
        int by = code;
        if (by == 3) {
            by = latest != null && latest.barge ? 2 : 1;
        }
        Traveller other = null;
        for (Traveller t : travellers) {
            if (t.state != 0 || by == 4) {
                continue;
            }
            if (by == 0 || t.barge == (by == 1)) {
                return t;
            }
            if (other == null) {
                other = t;
            }
        }
        return other;
    }

    private Traveller at(int traveller) {
        if (traveller < 0 || traveller >= travellers.size()) {
            throw new IndexOutOfBoundsException();
        }
        return travellers.get(traveller);
    }

    private static void checkMinutes(int minutes) {
        if (minutes < 1 || minutes > 240) {
            throw new IllegalArgumentException();
        }
    }

    private static int firstLeast(int[] numbers) {
        int least = 0;
        for (int i = 1; i < numbers.length; i++) {
            if (numbers[i] < numbers[least]) {
                least = i;
            }
        }
        return least;
    }
}
