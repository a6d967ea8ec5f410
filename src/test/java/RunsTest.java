import java.util.Random;

/** Long runs of calls, always the same ones, whose every outcome is that of NaiveSongs. */
public final class RunsTest {
    private static final int RUNS = 150;
    private static final int CALLS = 500;
    private static final String INDEX = "throws java.lang.IndexOutOfBoundsException";
    private static final String ARGUMENT = "throws java.lang.IllegalArgumentException";
    private static final String STATE = "throws java.lang.IllegalStateException";
    private static final int[] FAR = {Integer.MIN_VALUE, Integer.MAX_VALUE, -100, 100, -1};

    private final Random dice;
    private final int run;
    private final int wordsUsed;
    private final MapSongs song = new MapSongs();
    private final NaiveSongs naive = new NaiveSongs();

    private RunsTest(int run) {
        this.run = run;
        this.dice = new Random(run);
        this.wordsUsed = 2 + run % 9;
    }

    public static void main(String[] args) {
        for (int run = 0; run < RUNS; run++) {
            RunsTest one = new RunsTest(run);
            for (int call = 0; call < CALLS; call++) {
                one.oneCall();
            }
            Check.due("run " + run + ": digest()", one.naive.digest(), one.song.digest());
        }
        Check.end("RunsTest");
    }

    private void same(String what, String want, Check.Call call) {
        Check.dueText("run " + run + ": " + what, want, Check.outcome(call));
    }

    private static String answers(long answer) {
        return "answers " + answer;
    }

    private static boolean in(int x, int least, int most) {
        return least <= x && x <= most;
    }

    /** Mostly least to most; now and then just outside, or far. */
    private int number(int least, int most) {
        int kind = dice.nextInt(40);
        if (kind == 0) {
            return least - 1;
        }
        if (kind == 1) {
            return most + 1;
        }
        if (kind == 2) {
            return FAR[dice.nextInt(FAR.length)];
        }
        return least + dice.nextInt(most - least + 1);
    }

    private int leg() {
        return number(0, Math.max(0, naive.legs() - 1));
    }

    private int word() {
        return dice.nextInt(10) == 0 ? number(0, 9) : number(0, wordsUsed - 1);
    }

    private void oneCall() {
        int kind = dice.nextInt(100);
        if (kind < 16) {
            addLeg();
        } else if (kind < 18) {
            strikeLeg();
        } else if (kind < 22) {
            bend();
        } else if (kind < 27) {
            setWord();
        } else if (kind < 29) {
            setStep();
        } else if (kind < 36) {
            mend();
        } else if (kind < 39) {
            mendTo();
        } else if (kind < 70) {
            askOfLeg(leg());
        } else if (kind < 85) {
            askOfWhole();
        } else {
            askOfWords();
        }
    }

    private void addLeg() {
        int turn = number(-3, 3);
        int length = number(1, 9);
        int landmark = number(0, 9);
        boolean bad = !in(turn, -3, 3) || !in(length, 1, 9) || !in(landmark, 0, 9);
        String want = bad ? ARGUMENT
            : naive.legs() == 16 ? STATE
            : answers(naive.addLeg(turn, length, landmark));
        same("addLeg(" + turn + ", " + length + ", " + landmark + ")", want,
            () -> song.addLeg(turn, length, landmark));
    }

    private void strikeLeg() {
        String want = naive.legs() == 0 ? STATE : answers(naive.strikeLeg());
        same("strikeLeg()", want, () -> song.strikeLeg());
    }

    private void bend() {
        int leg = leg();
        int turn = number(-3, 3);
        String want = !in(leg, 0, naive.legs() - 1) ? INDEX
            : !in(turn, -3, 3) ? ARGUMENT
            : answers(naive.bend(leg, turn));
        same("bend(" + leg + ", " + turn + ")", want, () -> song.bend(leg, turn));
    }

    private void setWord() {
        int landmark = number(0, 9);
        int word = word();
        String want = !in(landmark, 0, 9) ? INDEX
            : !in(word, 0, 9) ? ARGUMENT
            : answers(naive.setWord(landmark, word));
        same("setWord(" + landmark + ", " + word + ")", want, () -> song.setWord(landmark, word));
    }

    private void setStep() {
        int step = number(1, 4);
        String want = in(step, 1, 4) ? answers(naive.setStep(step)) : ARGUMENT;
        same("setStep(" + step + ")", want, () -> song.setStep(step));
    }

    private void mend() {
        int leg = leg();
        String want = !in(leg, 0, naive.legs() - 1) ? INDEX
            : !naive.isAmbiguous(leg) ? STATE
            : answers(naive.mend(leg));
        same("mend(" + leg + ")", want, () -> song.mend(leg));
    }

    private void mendTo() {
        int most = dice.nextInt(2) == 0 ? number(1, 1000000) : number(1, 40);
        String want = in(most, 1, 1000000) ? answers(naive.mendTo(most)) : ARGUMENT;
        same("mendTo(" + most + ")", want, () -> song.mendTo(most));
    }

    private void askOfLeg(int leg) {
        boolean is = in(leg, 0, naive.legs() - 1);
        switch (dice.nextInt(10)) {
            case 0 -> same("turnOf", is ? answers(naive.turnOf(leg)) : INDEX, () -> song.turnOf(leg));
            case 1 -> same("headingOf", is ? answers(naive.headingOf(leg)) : INDEX, () -> song.headingOf(leg));
            case 2 -> same("landmarkOf", is ? answers(naive.landmarkOf(leg)) : INDEX, () -> song.landmarkOf(leg));
            case 3 -> same("noteOf", is ? answers(naive.noteOf(leg)) : INDEX, () -> song.noteOf(leg));
            case 4 -> same("isFolded", is ? answers(naive.isFolded(leg) ? 1 : 0) : INDEX,
                () -> song.isFolded(leg) ? 1 : 0);
            case 5 -> same("wordIn", is ? answers(naive.wordIn(leg)) : INDEX, () -> song.wordIn(leg));
            case 6 -> same("readings", is ? answers(naive.readings(leg)) : INDEX, () -> song.readings(leg));
            case 7 -> same("rightReading", is ? answers(naive.rightReading(leg)) : INDEX,
                () -> song.rightReading(leg));
            case 8 -> same("isAmbiguous", is ? answers(naive.isAmbiguous(leg) ? 1 : 0) : INDEX,
                () -> song.isAmbiguous(leg) ? 1 : 0);
            default -> same("isMended", is ? answers(naive.isMended(leg) ? 1 : 0) : INDEX,
                () -> song.isMended(leg) ? 1 : 0);
        }
    }

    private void askOfWhole() {
        int[] end = naive.placeBehind(naive.legs());
        switch (dice.nextInt(15)) {
            case 0 -> same("legs", answers(naive.legs()), () -> song.legs());
            case 1 -> same("step", answers(naive.step), () -> song.step());
            case 2 -> same("endX", answers(end[0]), () -> song.endX());
            case 3 -> same("endY", answers(end[1]), () -> song.endY());
            case 4 -> same("stepsHome", answers(naive.stepsHome()), () -> song.stepsHome());
            case 5 -> same("returns", answers(naive.returns()), () -> song.returns());
            case 6 -> same("beats", answers(naive.beats()), () -> song.beats());
            case 7 -> same("folded", answers(naive.folded()), () -> song.folded());
            case 8 -> same("range", answers(naive.range()), () -> song.range());
            case 9 -> same("ambiguous", answers(naive.ambiguous()), () -> song.ambiguous());
            case 10 -> same("ways", answers(naive.ways()), () -> song.ways());
            case 11 -> same("firstAmbiguous", answers(naive.firstAmbiguous()), () -> song.firstAmbiguous());
            case 12 -> same("bestStep", answers(naive.bestStep()), () -> song.bestStep());
            case 13 -> Check.dueDouble("run " + run + ": meanNote", naive.meanNote(), song.meanNote());
            default -> same("digest", answers(naive.digest()), () -> song.digest());
        }
    }

    private void askOfWords() {
        int landmark = number(0, 9);
        int word = number(0, 9);
        boolean is = in(landmark, 0, 9);
        switch (dice.nextInt(4)) {
            case 0 -> same("wordOf", is ? answers(naive.words[landmark]) : INDEX, () -> song.wordOf(landmark));
            case 1 -> same("sungWith", in(word, 0, 9) ? answers(naive.sungWith(word)) : INDEX,
                () -> song.sungWith(word));
            case 2 -> same("bestWord", is ? answers(naive.bestWord(landmark)) : INDEX, () -> song.bestWord(landmark));
            default -> same("ambiguousWith",
                is && in(word, 0, 9) ? answers(naive.ambiguousWith(landmark, word)) : INDEX,
                () -> song.ambiguousWith(landmark, word));
        }
    }
}
