import java.util.ArrayList;
import java.util.List;

/**
 * The document read once more, as simply as can be: nothing is kept but what the calls told, and every answer is
 * worked out from the first leg on, with the readings listed one by one. Arguments are valid here.
 */
final class NaiveSongs {
    private static final class Leg {
        int turn;
        int length;
        int landmark;
        boolean mended;
    }

    private static final String[] COMPASS = {"N", "NE", "E", "SE", "S", "SW", "W", "NW"};

    final List<Leg> way = new ArrayList<>();
    final int[] words = {0, 1, 2, 3, 4, 5, 6, 7, 8, 9};
    int step = 2;

    NaiveSongs unmendedCopy() {
        NaiveSongs copy = new NaiveSongs();
        for (Leg leg : way) {
            copy.addLeg(leg.turn, leg.length, leg.landmark);
        }
        System.arraycopy(words, 0, copy.words, 0, 10);
        copy.step = step;
        return copy;
    }

    int addLeg(int turn, int length, int landmark) {
        Leg leg = new Leg();
        leg.turn = turn;
        leg.length = length;
        leg.landmark = landmark;
        way.add(leg);
        return way.size() - 1;
    }

    int strikeLeg() {
        return way.remove(way.size() - 1).landmark;
    }

    int bend(int leg, int turn) {
        int before = way.get(leg).turn;
        way.get(leg).turn = turn;
        unmendAll();
        return before;
    }

    int setWord(int landmark, int word) {
        int before = words[landmark];
        words[landmark] = word;
        unmendAll();
        return before;
    }

    int setStep(int newStep) {
        int before = step;
        step = newStep;
        unmendAll();
        return before;
    }

    private void unmendAll() {
        for (Leg leg : way) {
            leg.mended = false;
        }
    }

    int legs() {
        return way.size();
    }

    int headingOf(int leg) {
        int heading = 0;
        for (int i = 0; i <= leg; i++) {
            heading = (heading + way.get(i).turn + 8) % 8;
        }
        return heading;
    }

    /** The place behind so many legs, walked step by step. */
    int[] placeBehind(int count) {
        int[] place = {0, 0};
        for (int i = 0; i < count; i++) {
            String to = COMPASS[headingOf(i)];
            for (int k = 0; k < way.get(i).length; k++) {
                place[0] += (to.contains("E") ? 1 : 0) - (to.contains("W") ? 1 : 0);
                place[1] += (to.contains("N") ? 1 : 0) - (to.contains("S") ? 1 : 0);
            }
        }
        return place;
    }

    /** Goes home step by step, on each by the side or sides that still differ. */
    int stepsHome() {
        int[] place = placeBehind(legs());
        int count = 0;
        while (place[0] != 0 || place[1] != 0) {
            place[0] -= Integer.signum(place[0]);
            place[1] -= Integer.signum(place[1]);
            count++;
        }
        return count;
    }

    int returns() {
        int count = 0;
        for (int leg = 0; leg < legs(); leg++) {
            int[] end = placeBehind(leg + 1);
            boolean was = false;
            for (int k = 0; k <= leg; k++) {
                int[] place = placeBehind(k);
                was |= place[0] == end[0] && place[1] == end[1];
            }
            count += was ? 1 : 0;
        }
        return count;
    }

    int turnOf(int leg) {
        return way.get(leg).turn;
    }

    int landmarkOf(int leg) {
        return way.get(leg).landmark;
    }

    private int noteAhead(int leg) {
        return leg == 0 ? 12 : noteOf(leg - 1);
    }

    private int sung(int ahead, int turn) {
        int plain = ahead + turn * step;
        return 0 <= plain && plain <= 24 ? plain : ahead - turn * step;
    }

    int noteOf(int leg) {
        return sung(noteAhead(leg), turnOf(leg));
    }

    boolean isFolded(int leg) {
        int interval = turnOf(leg) * step;
        return interval != 0 && noteOf(leg) == noteAhead(leg) - interval;
    }

    int wordIn(int leg) {
        return words[landmarkOf(leg)];
    }

    int beats() {
        int sum = 0;
        for (Leg leg : way) {
            sum += leg.length;
        }
        return sum;
    }

    int folded() {
        int count = 0;
        for (int leg = 0; leg < legs(); leg++) {
            count += isFolded(leg) ? 1 : 0;
        }
        return count;
    }

    int range() {
        int most = 0;
        for (int a = 0; a < legs(); a++) {
            for (int b = 0; b < legs(); b++) {
                most = Math.max(most, noteOf(a) - noteOf(b));
            }
        }
        return most;
    }

    int sungWith(int word) {
        int count = 0;
        for (int leg = 0; leg < legs(); leg++) {
            count += wordIn(leg) == word ? 1 : 0;
        }
        return count;
    }

    private List<int[]> listOfReadings(int leg) {
        List<int[]> found = new ArrayList<>();
        for (int turn = -3; turn <= 3; turn++) {
            for (int landmark = 0; landmark <= 9; landmark++) {
                if (sung(noteAhead(leg), turn) == noteOf(leg) && words[landmark] == wordIn(leg)) {
                    found.add(new int[] {turn, landmark});
                }
            }
        }
        return found;
    }

    int readings(int leg) {
        return listOfReadings(leg).size();
    }

    int rightReading(int leg) {
        List<int[]> found = listOfReadings(leg);
        for (int i = 0; i < found.size(); i++) {
            if (found.get(i)[0] == turnOf(leg) && found.get(i)[1] == landmarkOf(leg)) {
                return i;
            }
        }
        throw new AssertionError("a leg is one of its own readings");
    }

    boolean isAmbiguous(int leg) {
        return readings(leg) > 1 && !isMended(leg);
    }

    boolean isMended(int leg) {
        return way.get(leg).mended;
    }

    int mend(int leg) {
        way.get(leg).mended = true;
        return rightReading(leg);
    }

    int mendTo(int most) {
        int count = 0;
        while (ways() > most) {
            int found = firstAmbiguous();
            for (int leg = 0; leg < legs(); leg++) {
                if (isAmbiguous(leg) && readings(leg) > readings(found)) {
                    found = leg;
                }
            }
            mend(found);
            count++;
        }
        return count;
    }

    int ambiguous() {
        int count = 0;
        for (int leg = 0; leg < legs(); leg++) {
            count += isAmbiguous(leg) ? 1 : 0;
        }
        return count;
    }

    long ways() {
        java.math.BigInteger product = java.math.BigInteger.ONE;
        for (int leg = 0; leg < legs(); leg++) {
            if (isAmbiguous(leg)) {
                product = product.multiply(java.math.BigInteger.valueOf(readings(leg)));
            }
        }
        return product.min(java.math.BigInteger.valueOf(1000000000)).longValueExact();
    }

    int firstAmbiguous() {
        for (int leg = 0; leg < legs(); leg++) {
            if (isAmbiguous(leg)) {
                return leg;
            }
        }
        return -1;
    }

    int ambiguousWith(int landmark, int word) {
        NaiveSongs other = unmendedCopy();
        other.words[landmark] = word;
        return other.ambiguous();
    }

    int bestWord(int landmark) {
        int best = 9;
        for (int word = 8; word >= 0; word--) {
            best = ambiguousWith(landmark, word) <= ambiguousWith(landmark, best) ? word : best;
        }
        return best;
    }

    int bestStep() {
        int[] count = new int[5];
        for (int s = 1; s <= 4; s++) {
            NaiveSongs other = unmendedCopy();
            other.step = s;
            count[s] = other.ambiguous();
        }
        int fewest = Math.min(Math.min(count[1], count[2]), Math.min(count[3], count[4]));
        for (int s = 1; s <= 4; s++) {
            if (count[s] == fewest) {
                return s;
            }
        }
        throw new AssertionError("one of them is the fewest");
    }

    double meanNote() {
        double sum = 0;
        for (int leg = 0; leg < legs(); leg++) {
            sum += noteOf(leg);
        }
        return legs() == 0 ? 0 : sum / legs();
    }

    long digest() {
        List<Long> x = new ArrayList<>();
        int[] end = placeBehind(legs());
        addAll(x, legs(), step, end[0], end[1], stepsHome(), returns());
        addAll(x, beats(), folded(), range(), ambiguous(), ways(), bestStep());
        for (int leg = 0; leg < legs(); leg++) {
            addAll(x, turnOf(leg), headingOf(leg), landmarkOf(leg), noteOf(leg));
            addAll(x, wordIn(leg), readings(leg), rightReading(leg), isMended(leg) ? 1 : 0);
        }
        for (int landmark = 0; landmark < 10; landmark++) {
            addAll(x, words[landmark], bestWord(landmark));
        }
        long d = 1051;
        for (long one : x) {
            d = d * 31 + one;
        }
        return d;
    }

    private static void addAll(List<Long> list, long... numbers) {
        for (long number : numbers) {
            list.add(number);
        }
    }
}
