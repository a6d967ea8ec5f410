/** A translation of maps into songs. */
public final class MapSongs {
    private static final int MOST_LEGS = 16;
    private static final int MOST_TURN = 3;
    private static final int MOST_LENGTH = 9;
    private static final int LANDMARKS = 10;
    private static final int WORDS = 10;
    private static final int HEADINGS = 8;
    private static final int FIRST_STEP = 2;
    private static final int MOST_STEP = 4;
    private static final int NOTE_AHEAD_OF_ALL = 12;
    private static final int HIGHEST_NOTE = 24;
    private static final long MOST_WAYS_TOLD = 1000000000L;
    private static final int MOST_WAYS_TO_MEND_TO = 1000000;
    private static final long DIGEST_START = 1051L;
    private static final long DIGEST_FACTOR = 31L;

    // How far a step in each heading leads, from the north on to the right.
    private static final int[] STEP_EAST = {0, 1, 1, 1, 0, -1, -1, -1};
    private static final int[] STEP_NORTH = {1, 1, 0, -1, -1, -1, 0, 1};

    // What the calls have told.
    private final int[] turns = new int[MOST_LEGS];
    private final int[] lengths = new int[MOST_LEGS];
    private final int[] landmarks = new int[MOST_LEGS];
    private final boolean[] marked = new boolean[MOST_LEGS];
    private final int[] words = new int[LANDMARKS];
    private int legCount;
    private int songStep;

    // What follows from it for each leg; kept by follow().
    private final int[] headings = new int[MOST_LEGS];
    private final int[] xs = new int[MOST_LEGS];
    private final int[] ys = new int[MOST_LEGS];
    private final int[] notes = new int[MOST_LEGS];

    public MapSongs() {
        songStep = FIRST_STEP;
        for (int landmark = 0; landmark < LANDMARKS; landmark++) {
            words[landmark] = landmark;
        }
    }

    // ---- the way

    public int addLeg(int turn, int length, int landmark) throws IllegalArgumentException, IllegalStateException {
        checkTurn(turn);
        if (length < 1 || length > MOST_LENGTH) {
            throw new IllegalArgumentException("a length is 1 to 9");
        }
        if (!isLandmark(landmark)) {
            throw new IllegalArgumentException("a landmark is 0 to 9");
        }
        if (legCount >= MOST_LEGS) {
            throw new IllegalStateException("a way has at most 16 legs");
        }
        int leg = legCount;
        turns[leg] = turn;
        lengths[leg] = length;
        landmarks[leg] = landmark;
        marked[leg] = false;
        legCount = leg + 1;
        follow(leg);
        return leg;
    }

    public int strikeLeg() throws IllegalStateException {
        if (legCount <= 0) {
            throw new IllegalStateException("there is no leg");
        }
        legCount = legCount - 1;
        return landmarks[legCount];
    }

    public int bend(int leg, int turn) throws IndexOutOfBoundsException, IllegalArgumentException {
        checkLeg(leg);
        checkTurn(turn);
        int before = turns[leg];
        turns[leg] = turn;
        follow(leg);
        dropMarks();
        return before;
    }

    public int setWord(int landmark, int word) throws IndexOutOfBoundsException, IllegalArgumentException {
        checkLandmark(landmark);
        if (!isWord(word)) {
            throw new IllegalArgumentException("a word is 0 to 9");
        }
        int before = words[landmark];
        words[landmark] = word;
        dropMarks();
        return before;
    }

    public int setStep(int step) throws IllegalArgumentException {
        if (step < 1 || step > MOST_STEP) {
            throw new IllegalArgumentException("a step is 1 to 4");
        }
        int before = songStep;
        songStep = step;
        follow(0);
        dropMarks();
        return before;
    }

    public int legs() {
        return legCount;
    }

    public int step() {
        return songStep;
    }

    public int endX() {
        return xAhead(legCount);
    }

    public int endY() {
        return yAhead(legCount);
    }

    public int stepsHome() {
        // A step between two of the four main headings counts for both, so the longer side decides.
        return Math.max(Math.abs(endX()), Math.abs(endY()));
    }

    public int returns() {
        int count = 0;
        for (int leg = 0; leg < legCount; leg++) {
            if (endsWhereItWas(leg)) {
                count++;
            }
        }
        return count;
    }

    public int turnOf(int leg) throws IndexOutOfBoundsException {
        checkLeg(leg);
        return turns[leg];
    }

    public int headingOf(int leg) throws IndexOutOfBoundsException {
        checkLeg(leg);
        return headings[leg];
    }

    public int landmarkOf(int leg) throws IndexOutOfBoundsException {
        checkLeg(leg);
        return landmarks[leg];
    }

    // ---- the song

    public int noteOf(int leg) throws IndexOutOfBoundsException {
        checkLeg(leg);
        return notes[leg];
    }

    public boolean isFolded(int leg) throws IndexOutOfBoundsException {
        checkLeg(leg);
        return leavesVoice(noteAhead(leg) + turns[leg] * songStep);
    }

    public int wordIn(int leg) throws IndexOutOfBoundsException {
        checkLeg(leg);
        return words[landmarks[leg]];
    }

    public int wordOf(int landmark) throws IndexOutOfBoundsException {
        checkLandmark(landmark);
        return words[landmark];
    }

    public int beats() {
        int sum = 0;
        for (int leg = 0; leg < legCount; leg++) {
            sum += lengths[leg];
        }
        return sum;
    }

    public int folded() {
        int count = 0;
        for (int leg = 0; leg < legCount; leg++) {
            if (isFolded(leg)) {
                count++;
            }
        }
        return count;
    }

    public int range() {
        if (legCount <= 0) {
            return 0;
        }
        int lowest = notes[0];
        int highest = notes[0];
        for (int leg = 1; leg < legCount; leg++) {
            lowest = Math.min(lowest, notes[leg]);
            highest = Math.max(highest, notes[leg]);
        }
        return highest - lowest;
    }

    public int sungWith(int word) throws IndexOutOfBoundsException {
        checkWord(word);
        int count = 0;
        for (int leg = 0; leg < legCount; leg++) {
            if (words[landmarks[leg]] == word) {
                count++;
            }
        }
        return count;
    }

    // ---- readings

    public int readings(int leg) throws IndexOutOfBoundsException {
        checkLeg(leg);
        int turnsAlike = turnsSungAs(notes[leg], noteAhead(leg), songStep, MOST_TURN + 1);
        return turnsAlike * landmarksNamed(words[landmarks[leg]], LANDMARKS);
    }

    public int rightReading(int leg) throws IndexOutOfBoundsException {
        checkLeg(leg);
        int word = words[landmarks[leg]];
        int smallerTurns = turnsSungAs(notes[leg], noteAhead(leg), songStep, turns[leg]);
        // Each smaller turn is read with every landmark of the word ahead of the turn itself.
        return smallerTurns * landmarksNamed(word, LANDMARKS) + landmarksNamed(word, landmarks[leg]);
    }

    public boolean isAmbiguous(int leg) throws IndexOutOfBoundsException {
        checkLeg(leg);
        return !marked[leg] && readings(leg) > 1;
    }

    public boolean isMended(int leg) throws IndexOutOfBoundsException {
        checkLeg(leg);
        return marked[leg];
    }

    public int mend(int leg) throws IndexOutOfBoundsException, IllegalStateException {
        checkLeg(leg);
        if (!isAmbiguous(leg)) {
            throw new IllegalStateException("the verse is not ambiguous");
        }
        marked[leg] = true;
        return rightReading(leg);
    }

    public int mendTo(int ways) throws IllegalArgumentException {
        if (ways < 1 || ways > MOST_WAYS_TO_MEND_TO) {
            throw new IllegalArgumentException("to mend to are 1 to 1000000 ways");
        }
        int count = 0;
        while (count < legCount && ways() > ways) {
            int leg = mostAmbiguous();
            if (leg < 0) {
                return count;
            }
            marked[leg] = true;
            count++;
        }
        return count;
    }

    public int ambiguous() {
        int count = 0;
        for (int leg = 0; leg < legCount; leg++) {
            if (isAmbiguous(leg)) {
                count++;
            }
        }
        return count;
    }

    public long ways() {
        long product = 1;
        for (int leg = 0; leg < legCount; leg++) {
            if (isAmbiguous(leg)) {
                // Cut at each verse: all sixteen multiplied could be more than a long holds.
                product = Math.min(product * readings(leg), MOST_WAYS_TOLD);
            }
        }
        return product;
    }

    public int firstAmbiguous() {
        for (int leg = 0; leg < legCount; leg++) {
            if (isAmbiguous(leg)) {
                return leg;
            }
        }
        return -1;
    }

    // ---- what would be

    public int ambiguousWith(int landmark, int word) throws IndexOutOfBoundsException {
        checkLandmark(landmark);
        checkWord(word);
        return unmendedWith(songStep, landmark, word);
    }

    public int bestWord(int landmark) throws IndexOutOfBoundsException {
        checkLandmark(landmark);
        int best = 0;
        int fewest = unmendedWith(songStep, landmark, 0);
        for (int word = 1; word < WORDS; word++) {
            int count = unmendedWith(songStep, landmark, word);
            if (count < fewest) {
                fewest = count;
                best = word;
            }
        }
        return best;
    }

    public int bestStep() {
        int best = 1;
        int fewest = unmendedWith(1, 0, words[0]);
        for (int step = 2; step <= MOST_STEP; step++) {
            int count = unmendedWith(step, 0, words[0]);
            if (count < fewest) {
                fewest = count;
                best = step;
            }
        }
        return best;
    }

    public double meanNote() {
        if (legCount <= 0) {
            return 0.0;
        }
        int sum = 0;
        for (int leg = 0; leg < legCount; leg++) {
            sum += notes[leg];
        }
        return (double) sum / (double) legCount;
    }

    public long digest() {
        long d = DIGEST_START;
        d = digested(d, legs());
        d = digested(d, step());
        d = digested(d, endX());
        d = digested(d, endY());
        d = digested(d, stepsHome());
        d = digested(d, returns());
        d = digested(d, beats());
        d = digested(d, folded());
        d = digested(d, range());
        d = digested(d, ambiguous());
        d = digested(d, ways());
        d = digested(d, bestStep());
        for (int leg = 0; leg < legCount; leg++) {
            d = digestOfLeg(d, leg);
        }
        for (int landmark = 0; landmark < LANDMARKS; landmark++) {
            d = digested(d, wordOf(landmark));
            d = digested(d, bestWord(landmark));
        }
        return d;
    }

    // ---- inside: tests of what a call is given

    private static boolean isLandmark(int landmark) {
        return landmark >= 0 && landmark < LANDMARKS;
    }

    private static boolean isWord(int word) {
        return word >= 0 && word < WORDS;
    }

    private static void checkTurn(int turn) {
        if (turn < -MOST_TURN || turn > MOST_TURN) {
            throw new IllegalArgumentException("a turn is -3 to 3");
        }
    }

    private static void checkLandmark(int landmark) {
        if (!isLandmark(landmark)) {
            throw new IndexOutOfBoundsException("a landmark is 0 to 9");
        }
    }

    private static void checkWord(int word) {
        if (!isWord(word)) {
            throw new IndexOutOfBoundsException("a word is 0 to 9");
        }
    }

    private void checkLeg(int leg) {
        if (leg < 0 || leg >= legCount) {
            throw new IndexOutOfBoundsException("there is no such leg");
        }
    }

    // ---- inside: the way and the notes

    private int headingAhead(int leg) {
        return leg > 0 ? headings[leg - 1] : 0;
    }

    private int xAhead(int leg) {
        return leg > 0 ? xs[leg - 1] : 0;
    }

    private int yAhead(int leg) {
        return leg > 0 ? ys[leg - 1] : 0;
    }

    private int noteAhead(int leg) {
        return leg > 0 ? notes[leg - 1] : NOTE_AHEAD_OF_ALL;
    }

    // A leg's heading, place and note rest on those ahead of it, so all from the first changed one on are made anew.
    private void follow(int first) {
        for (int leg = first; leg < legCount; leg++) {
            int heading = Math.floorMod(headingAhead(leg) + turns[leg], HEADINGS);
            headings[leg] = heading;
            xs[leg] = xAhead(leg) + lengths[leg] * STEP_EAST[heading];
            ys[leg] = yAhead(leg) + lengths[leg] * STEP_NORTH[heading];
            notes[leg] = noteBehind(noteAhead(leg), turns[leg] * songStep);
        }
    }

    private boolean endsWhereItWas(int leg) {
        if (xs[leg] == 0 && ys[leg] == 0) {
            return true;
        }
        for (int earlier = 0; earlier < leg; earlier++) {
            if (xs[earlier] == xs[leg] && ys[earlier] == ys[leg]) {
                return true;
            }
        }
        return false;
    }

    private static boolean leavesVoice(int note) {
        return note < 0 || note > HIGHEST_NOTE;
    }

    private static int noteBehind(int ahead, int interval) {
        int note = ahead + interval;
        return leavesVoice(note) ? ahead - interval : note;
    }

    private void dropMarks() {
        for (int leg = 0; leg < legCount; leg++) {
            marked[leg] = false;
        }
    }

    // ---- inside: readings

    /** How many turns less than `end` make this note behind the one ahead of it. */
    private static int turnsSungAs(int note, int ahead, int step, int end) {
        int count = 0;
        for (int turn = -MOST_TURN; turn < end; turn++) {
            if (noteBehind(ahead, turn * step) == note) {
                count++;
            }
        }
        return count;
    }

    /** How many landmarks less than `end` have this word. */
    private int landmarksNamed(int word, int end) {
        int count = 0;
        for (int landmark = 0; landmark < end; landmark++) {
            if (words[landmark] == word) {
                count++;
            }
        }
        return count;
    }

    /** The ambiguous leg with the most readings, of several the first one; -1 if there is none. */
    private int mostAmbiguous() {
        int found = -1;
        int most = 1;
        for (int leg = 0; leg < legCount; leg++) {
            int count = readings(leg);
            if (!marked[leg] && count > most) {
                most = count;
                found = leg;
            }
        }
        return found;
    }

    // ---- inside: what would be

    /** How many verses would be ambiguous with this step and this word of one landmark, none mended. */
    private int unmendedWith(int step, int landmark, int word) {
        int count = 0;
        int ahead = NOTE_AHEAD_OF_ALL;
        for (int leg = 0; leg < legCount; leg++) {
            int note = noteBehind(ahead, turns[leg] * step);
            boolean severalTurns = turnsSungAs(note, ahead, step, MOST_TURN + 1) > 1;
            if (severalTurns || sharesWordIf(landmarks[leg], landmark, word)) {
                count++;
            }
            ahead = note;
        }
        return count;
    }

    /** Whether a landmark would share its word with another one, if the landmark `changed` had this word. */
    private boolean sharesWordIf(int landmark, int changed, int word) {
        int own = wordIf(landmark, changed, word);
        for (int other = 0; other < LANDMARKS; other++) {
            if (other != landmark && wordIf(other, changed, word) == own) {
                return true;
            }
        }
        return false;
    }

    private int wordIf(int landmark, int changed, int word) {
        return landmark == changed ? word : words[landmark];
    }

    // ---- inside: the digest

    private static long digested(long d, long x) {
        return d * DIGEST_FACTOR + x;
    }

    private long digestOfLeg(long start, int leg) {
        long d = start;
        d = digested(d, turnOf(leg));
        d = digested(d, headingOf(leg));
        d = digested(d, landmarkOf(leg));
        d = digested(d, noteOf(leg));
        d = digested(d, wordIn(leg));
        d = digested(d, readings(leg));
        d = digested(d, rightReading(leg));
        d = digested(d, isMended(leg) ? 1 : 0);
        return d;
    }
}
