import java.math.BigInteger;

/** A test for each sentence of the promises that names a boundary case, in their order. */
final class PromiseBoundaries {
    private static final String NO_SUCH_LEG = "Throws `IndexOutOfBoundsException` if there is no such leg";
    private static final String NO_SUCH_LANDMARK = "Throws `IndexOutOfBoundsException` if landmark is not 0 to 9";

    private PromiseBoundaries() {
    }

    static void test() {
        refusedLegs();
        newWayIsEmpty();
        addLegRefusesArguments();
        addLegRefusesASeventeenth();
        strikeLegRefusesAnEmptyWay();
        bendMendsNone();
        bendRefusesATurn();
        setWordMendsNone();
        setWordRefusesALandmark();
        setWordRefusesAWord();
        setStepMendsNone();
        setStepRefusesAStep();
        legsFromNoneToSixteen();
        endFarthestOff();
        stepsHomeAtLeast();
        returnsToTheBeginning();
        wordOfRefusesALandmark();
        beatsFromNoneOn();
        foldedFromNoneOn();
        rangeWithoutVerses();
        sungWithRefusesAWord();
        readingsFromOneToTwenty();
        rightReadingFromZeroOn();
        mendRefusesWhatIsNotAmbiguous();
        mendToTakesTheFirstOfSeveral();
        mendToStopsInTime();
        mendToAtTheMost();
        mendToRefusesWays();
        ambiguousFromNoneToAll();
        waysFromOneOn();
        firstAmbiguousOfNone();
        ambiguousWithChangesNothing();
        ambiguousWithRefuses();
        bestWordIsTheSmallest();
        bestWordRefusesALandmark();
        bestStepIsTheSmallest();
        meanNoteWithoutAny();
        digestStarts();
        digestWrapsAround();
    }

    /** The same sentence for each call of a leg. */
    private static void refusedLegs() {
        noSuchLeg(4, "bend", (s, leg) -> s.bend(leg, 1));
        noSuchLeg(13, "turnOf", MapSongs::turnOf);
        noSuchLeg(14, "headingOf", MapSongs::headingOf);
        noSuchLeg(15, "landmarkOf", MapSongs::landmarkOf);
        noSuchLeg(16, "noteOf", MapSongs::noteOf);
        noSuchLeg(17, "isFolded", (s, leg) -> Songs.one(s.isFolded(leg)));
        noSuchLeg(18, "wordIn", MapSongs::wordIn);
        noSuchLeg(24, "readings", MapSongs::readings);
        noSuchLeg(25, "rightReading", MapSongs::rightReading);
        noSuchLeg(26, "isAmbiguous", (s, leg) -> Songs.one(s.isAmbiguous(leg)));
        noSuchLeg(27, "isMended", (s, leg) -> Songs.one(s.isMended(leg)));
        noSuchLeg(28, "mend", MapSongs::mend);
    }

    private static void noSuchLeg(int promise, String name, Songs.OfNumber call) {
        Sentences.test("Promise " + promise, NO_SUCH_LEG);
        Songs.takesLegs(name, call);
    }

    private static void newWayIsEmpty() {
        Sentences.test("Promise 1", "Creates an empty way.");
        String due = " whole 0 2 0 0 0 0 0 0 0 0 1 -1 1 " + digestOfNew() + " 0.0";
        StringBuilder words = new StringBuilder();
        for (int number = 0; number <= 9; number++) {
            words.append(" number ").append(number).append(" 0 0").append(" with 0".repeat(10));
        }
        Check.dueText("all answers of a new way", due + words, Songs.answers(new MapSongs()));
    }

    /** As the document tells it: 1051, the twelve answers of the whole, and for each landmark its word and 0. */
    private static long digestOfNew() {
        long d = 1051;
        for (int x : new int[] {0, 2, 0, 0, 0, 0, 0, 0, 0, 0, 1, 1}) {
            d = d * 31 + x;
        }
        for (int landmark = 0; landmark <= 9; landmark++) {
            d = (d * 31 + landmark) * 31;
        }
        return d;
    }

    private static void addLegRefusesArguments() {
        Sentences.test("Promise 2", "if turn is not -3 to 3, length is not 1 to 9, or landmark is not 0 to 9");
        for (Songs.Maker maker : new Songs.Maker[] {MapSongs::new, Songs::ordinary}) {
            Songs.takes("addLeg, turn", -3, 3, Songs.ARGUMENT, maker, (s, turn) -> s.addLeg(turn, 9, 9));
            Songs.takes("addLeg, length", 1, 9, Songs.ARGUMENT, maker, (s, length) -> s.addLeg(-3, length, 0));
            Songs.takes("addLeg, landmark", 0, 9, Songs.ARGUMENT, maker, (s, landmark) -> s.addLeg(3, 1, landmark));
        }
    }

    private static void addLegRefusesASeventeenth() {
        Sentences.test("Promise 2", "Throws `IllegalStateException` if there are 16");
        MapSongs fifteen = Songs.flat(15);
        Check.due("the sixteenth", 15, fifteen.addLeg(3, 9, 9));
        Check.refused("the seventeenth", Songs.STATE, fifteen, () -> fifteen.addLeg(3, 9, 9));
        Check.refused("the seventeenth again", Songs.STATE, fifteen, () -> fifteen.addLeg(0, 1, 0));
        Check.due("room again", 9, fifteen.strikeLeg());
        Check.due("the sixteenth again", 15, fifteen.addLeg(-3, 1, 8));
        Check.refused("then full again", Songs.STATE, fifteen, () -> fifteen.addLeg(-3, 1, 8));
    }

    private static void strikeLegRefusesAnEmptyWay() {
        Sentences.test("Promise 3", "Throws `IllegalStateException` if there is none");
        MapSongs empty = new MapSongs();
        Check.refused("strike of a new way", Songs.STATE, empty, () -> empty.strikeLeg());
        MapSongs song = Songs.full();
        for (int leg = 15; leg >= 0; leg--) {
            Check.due("strike leg " + leg, leg % 10, song.strikeLeg());
        }
        Check.refused("strike when all are struck", Songs.STATE, song, () -> song.strikeLeg());
        Check.due("a leg then", 0, song.addLeg(1, 1, 1));
        Check.due("and struck", 1, song.strikeLeg());
        Check.refused("strike then", Songs.STATE, song, () -> song.strikeLeg());
    }

    /** Sixteen legs, all mended. */
    private static MapSongs allMended() {
        MapSongs song = Songs.ambiguousFlat(16);
        Check.due("mended at first", 16, song.mendTo(1));
        return song;
    }

    private static void noneMended(String name, MapSongs song) {
        for (int leg = 0; leg < song.legs(); leg++) {
            Check.due(name + ": leg " + leg + " is mended", false, song.isMended(leg));
        }
    }

    private static void bendMendsNone() {
        Sentences.test("Promise 4", "no verse is mended then.");
        for (int leg : new int[] {0, 7, 15}) {
            MapSongs song = allMended();
            Check.due("bend", 0, song.bend(leg, 1));
            noneMended("bend of " + leg, song);
            Check.due("all are ambiguous", 16, song.ambiguous());
            MapSongs same = allMended();
            Check.due("bend as it is", 0, same.bend(leg, 0));
            noneMended("bend of " + leg + " as it is", same);
        }
    }

    private static void bendRefusesATurn() {
        Sentences.test("Promise 4", "Throws `IllegalArgumentException` if turn is not -3 to 3");
        Songs.takes("bend the first by", -3, 3, Songs.ARGUMENT, Songs::full, (s, turn) -> s.bend(0, turn));
        Songs.takes("bend the last by", -3, 3, Songs.ARGUMENT, Songs::full, (s, turn) -> s.bend(15, turn));
    }

    private static void setWordMendsNone() {
        Sentences.test("Promise 5", "no verse is mended then.");
        MapSongs song = allMended();
        Check.due("setWord of a landmark on the way", 0, song.setWord(0, 9));
        noneMended("setWord of a landmark on the way", song);
        MapSongs other = allMended();
        Check.due("setWord of one that is not", 9, other.setWord(9, 8));
        noneMended("setWord of one that is not", other);
        MapSongs same = allMended();
        Check.due("setWord as it is", 0, same.setWord(1, 0));
        noneMended("setWord as it is", same);
        Check.due("all are ambiguous", 16, same.ambiguous());
    }

    private static void setWordRefusesALandmark() {
        Sentences.test("Promise 5", NO_SUCH_LANDMARK);
        Songs.takes("setWord of", 0, 9, Songs.INDEX, Songs::full, (s, landmark) -> s.setWord(landmark, 4));
    }

    private static void setWordRefusesAWord() {
        Sentences.test("Promise 5", "Throws `IllegalArgumentException` if word is not 0 to 9");
        Songs.takes("setWord of 0 to", 0, 9, Songs.ARGUMENT, Songs::full, (s, word) -> s.setWord(0, word));
        Songs.takes("setWord of 9 to", 0, 9, Songs.ARGUMENT, Songs::full, (s, word) -> s.setWord(9, word));
    }

    private static void setStepMendsNone() {
        Sentences.test("Promise 6", "no verse is mended then.");
        for (int step = 1; step <= 4; step++) {
            MapSongs song = allMended();
            Check.due("setStep", 2, song.setStep(step));
            noneMended("setStep " + step, song);
            Check.due("all are ambiguous", 16, song.ambiguous());
        }
    }

    private static void setStepRefusesAStep() {
        Sentences.test("Promise 6", "Throws `IllegalArgumentException` if step is not 1 to 4");
        Songs.takes("setStep", 1, 4, Songs.ARGUMENT, Songs::full, MapSongs::setStep);
        Songs.takes("setStep of an empty way", 1, 4, Songs.ARGUMENT, MapSongs::new, MapSongs::setStep);
    }

    private static void legsFromNoneToSixteen() {
        Sentences.test("Promise 7", "Returns how many legs there are.");
        MapSongs song = new MapSongs();
        for (int legs = 0; legs < 16; legs++) {
            Check.due("legs", legs, song.legs());
            song.addLeg(0, 1, 0);
        }
        Check.due("legs of a full way", 16, song.legs());
    }

    private static void endFarthestOff() {
        Sentences.test("Promise 9", "Returns the x of the place to which the way leads.");
        Sentences.test("Promise 10", "Returns the y of the place to which the way leads.");
        int[][] due = {{-3, -144, -144}, {-2, -144, 0}, {-1, -144, 144}, {0, 0, 144}, {1, 144, 144}, {2, 144, 0},
            {3, 144, -144}};
        for (int[] row : due) {
            MapSongs song = farthest(row[0]);
            Check.due("endX by " + row[0], row[1], song.endX());
            Check.due("endY by " + row[0], row[2], song.endY());
            Check.due("stepsHome by " + row[0], 144, song.stepsHome());
        }
        Check.due("endX of an empty way", 0, new MapSongs().endX());
        Check.due("endY of an empty way", 0, new MapSongs().endY());
    }

    /** Sixteen legs, as long as can be, in one heading. */
    private static MapSongs farthest(int turn) {
        MapSongs song = new MapSongs();
        for (int leg = 0; leg < 16; leg++) {
            song.addLeg(leg == 0 ? turn : 0, 9, 0);
        }
        return song;
    }

    private static void stepsHomeAtLeast() {
        Sentences.test("Promise 11", "how many steps it takes at least from there to its beginning");
        Check.due("of an empty way", 0, new MapSongs().stepsHome());
        Check.due("round the square", 0, Songs.turning(2, 2, 2, 2).stepsHome());
        for (int turn = -3; turn <= 3; turn++) {
            Check.due("a step off", 1, Songs.turning(turn).stepsHome());
        }
        // To 6 east, and from 6 north to 6 south: the side that is longer changes at the corners.
        for (int north = -9; north <= 9; north++) {
            MapSongs song = new MapSongs();
            song.addLeg(2, 6, 0);
            if (north != 0) {
                song.addLeg(north > 0 ? -2 : 2, Math.abs(north), 0);
            }
            Check.due("from 6, " + north, Math.max(6, Math.abs(north)), song.stepsHome());
        }
    }

    private static void returnsToTheBeginning() {
        Sentences.test("Promise 12", "or at the beginning.");
        Check.due("of an empty way", 0, new MapSongs().returns());
        Check.due("of one leg", 0, Songs.turning(3).returns());
        Check.due("across to the beginning", 1, Songs.turning(0, 3, 1, 3).returns());
        Check.due("to below the beginning", 0, Songs.turning(0, 3, 1, 2).returns());
        Check.due("to beside the beginning", 0, Songs.turning(0, 3, 1, -3).returns());
        MapSongs square = Songs.turning(2, 2, 2, 2, 2, 2, 2, 2, 2, 2, 2, 2, 2, 2, 2, 2);
        for (int leg = 16; leg > 0; leg--) {
            Check.due("returns of " + leg + " legs round the square", Math.max(0, leg - 3), square.returns());
            square.strikeLeg();
        }
        MapSongs bent = Songs.turning(2, 2, 2, 2, 0);
        Check.due("at the beginning just once", 1, bent.returns());
        bent.bend(3, -2);
        Check.due("bent aside", 0, bent.returns());
    }

    private static void wordOfRefusesALandmark() {
        Sentences.test("Promise 19", NO_SUCH_LANDMARK);
        Songs.takes("wordOf", 0, 9, Songs.INDEX, Songs::full, MapSongs::wordOf);
        Songs.takes("wordOf of an empty way", 0, 9, Songs.INDEX, MapSongs::new, MapSongs::wordOf);
    }

    private static void beatsFromNoneOn() {
        Sentences.test("Promise 20", "Returns how many beats the song has.");
        Check.due("of an empty way", 0, new MapSongs().beats());
        Check.due("of the shortest leg", 1, Songs.flat(1).beats());
        Check.due("of the longest way", 144, farthest(1).beats());
        Check.due("of a full way of shortest legs", 16, Songs.flat(16).beats());
    }

    private static void foldedFromNoneOn() {
        Sentences.test("Promise 21", "Returns how many verses are folded.");
        Check.due("of an empty way", 0, new MapSongs().folded());
        Check.due("of a flat song", 0, Songs.flat(16).folded());
        Check.due("all but the first", 15, Songs.mostAmbiguous().folded());
    }

    private static void rangeWithoutVerses() {
        Sentences.test("Promise 22", "0 without verses.");
        MapSongs song = new MapSongs();
        Check.due("without verses", 0, song.range());
        song.addLeg(3, 1, 0);
        Check.due("of one verse", 0, song.range());
        song.addLeg(3, 1, 0);
        song.addLeg(-1, 1, 0);
        Check.due("of three verses", 6, song.range());
        song.strikeLeg();
        song.strikeLeg();
        song.strikeLeg();
        Check.due("without verses again", 0, song.range());
        Check.due("from the highest to the lowest", 24, Songs.turning(3, 3, -3, -3, -3, -3).range());
    }

    private static void sungWithRefusesAWord() {
        Sentences.test("Promise 23", "Throws `IndexOutOfBoundsException` if word is not 0 to 9");
        Songs.takes("sungWith", 0, 9, Songs.INDEX, Songs::full, MapSongs::sungWith);
        Songs.takes("sungWith of an empty way", 0, 9, Songs.INDEX, MapSongs::new, MapSongs::sungWith);
        Check.due("with none", 0, Songs.flat(16).sungWith(9));
        Check.due("with all", 16, Songs.flat(16).sungWith(0));
    }

    private static void readingsFromOneToTwenty() {
        Sentences.test("Promise 24", "Returns how many readings its verse has.");
        Check.due("the fewest", 1, Songs.flat(1).readings(0));
        MapSongs most = Songs.mostAmbiguous();
        Check.due("of all landmarks", 10, most.readings(0));
        for (int leg = 1; leg < 16; leg++) {
            Check.due("of all landmarks and two turns", 20, most.readings(leg));
        }
    }

    private static void rightReadingFromZeroOn() {
        Sentences.test("Promise 25", "Returns which of them, from 0 on, is the leg as it is.");
        for (int landmark = 0; landmark <= 9; landmark++) {
            MapSongs song = Songs.turning(3, 3);
            Songs.shareWord(song, 0, 9, 5);
            song.addLeg(-3, 1, landmark);
            Check.due("of the smaller turn", landmark, song.rightReading(2));
            song.bend(2, 3);
            Check.due("of the greater turn", 10 + landmark, song.rightReading(2));
            song.bend(2, 0);
            Check.due("of a turn that is alone", landmark, song.rightReading(2));
        }
    }

    private static void mendRefusesWhatIsNotAmbiguous() {
        Sentences.test("Promise 28", "Throws `IllegalStateException` if it is not ambiguous");
        MapSongs song = Songs.past(0, 1, 9);
        song.setWord(9, 1);
        Check.refused("of one reading", Songs.STATE, song, () -> song.mend(0));
        Check.due("of two readings", 1, song.mend(2));
        Check.refused("mended", Songs.STATE, song, () -> song.mend(2));
        Check.due("the other one", 0, song.mend(1));
        Check.refused("mended too", Songs.STATE, song, () -> song.mend(1));
        song.setWord(0, 0);
        Check.due("ambiguous again", 1, song.mend(2));
        song.setWord(9, 9);
        Check.refused("no more ambiguous", Songs.STATE, song, () -> song.mend(2));
        MapSongs all = Songs.ambiguousFlat(2);
        all.mendTo(1);
        Check.refused("mended by mendTo", Songs.STATE, all, () -> all.mend(1));
    }

    /** Readings of the seven verses: 1, 2, 3, 4, 3, 4, 2. */
    private static MapSongs ofFourSizes() {
        MapSongs song = Songs.past(9, 0, 2, 5, 3, 6, 1);
        Songs.shareWord(song, 0, 1, 0);
        Songs.shareWord(song, 2, 4, 2);
        Songs.shareWord(song, 5, 8, 5);
        return song;
    }

    private static void mendToTakesTheFirstOfSeveral() {
        Sentences.test("Promise 29", "Mends the ambiguous verse with the most readings, of several the first one;");
        int[] order = {3, 5, 2, 4, 1, 6};
        MapSongs song = ofFourSizes();
        for (int done = 0; done < order.length; done++) {
            Check.due("one more", 1, song.mendTo((int) song.ways() - 1));
            for (int leg = 0; leg < 7; leg++) {
                boolean due = false;
                for (int k = 0; k <= done; k++) {
                    due |= order[k] == leg;
                }
                Check.due("behind " + (done + 1) + ": leg " + leg + " is mended", due, song.isMended(leg));
            }
        }
        MapSongs most = Songs.mostAmbiguous();
        Check.due("from more ways than are told", 12, most.mendTo(1000000));
        Check.due("the first one has fewer readings", 0, most.firstAmbiguous());
        Check.due("the twelfth of the others", true, most.isMended(12));
        Check.due("the thirteenth", false, most.isMended(13));
        Check.due("ways then", 80000, most.ways());
    }

    private static void mendToStopsInTime() {
        Sentences.test("Promise 29", "again and again, until the song can be read in no more ways than told.");
        // The ways behind each verse that is mended, from the one with the most readings on.
        int[] ways = {576, 144, 36, 12, 4, 2, 1};
        for (int most = 1; most <= 600; most++) {
            int due = 0;
            while (ways[due] > most) {
                due++;
            }
            MapSongs song = ofFourSizes();
            Check.due("mendTo(" + most + ")", due, song.mendTo(most));
            Check.due("ways behind it", ways[due], song.ways());
            Check.due("mendTo(" + most + ") again", 0, song.mendTo(most));
        }
        Check.due("of an empty way", 0, new MapSongs().mendTo(1));
        Check.due("of one reading each", 0, Songs.past(0, 1).mendTo(1));
        Check.due("of all sixteen", 16, Songs.mostAmbiguous().mendTo(1));
        Check.due("of the last one left", 1, lastLeft().mendTo(1));
    }

    private static MapSongs lastLeft() {
        MapSongs song = Songs.ambiguousFlat(16);
        Check.due("all but one", 15, song.mendTo(2));
        Check.due("the last is left", 15, song.firstAmbiguous());
        return song;
    }

    private static void mendToAtTheMost() {
        Sentences.test("Promise 29", "in how many ways at the most");
        MapSongs song = Songs.flat(6);
        Songs.shareWord(song, 0, 9, 0);
        Check.due("a million ways are no more than a million", 0, song.mendTo(1000000));
        Check.due("but more than one less", 1, song.mendTo(999999));
        MapSongs seven = Songs.flat(7);
        Songs.shareWord(seven, 0, 9, 0);
        Check.due("ten million are more", 1, seven.mendTo(1000000));
        Check.due("two ways are more than one", 1, Songs.ambiguousFlat(1).mendTo(1));
        Check.due("two ways are no more than two", 0, Songs.ambiguousFlat(1).mendTo(2));
    }

    private static void mendToRefusesWays() {
        Sentences.test("Promise 29", "Throws `IllegalArgumentException` if ways is not 1 to 1000000");
        Songs.takes("mendTo", 1, 1000000, Songs.ARGUMENT, Songs::full, MapSongs::mendTo);
        Songs.takes("mendTo of an empty way", 1, 1000000, Songs.ARGUMENT, MapSongs::new, MapSongs::mendTo);
        Songs.takes("mendTo of most ways", 1, 1000000, Songs.ARGUMENT, Songs::mostAmbiguous, MapSongs::mendTo);
    }

    private static void ambiguousFromNoneToAll() {
        Sentences.test("Promise 30", "Returns how many verses are ambiguous.");
        Check.due("of an empty way", 0, new MapSongs().ambiguous());
        Check.due("of none", 0, Songs.flat(16).ambiguous());
        MapSongs all = Songs.ambiguousFlat(16);
        for (int leg = 0; leg < 16; leg++) {
            Check.due("less those mended", 16 - leg, all.ambiguous());
            all.mend(leg);
        }
        Check.due("of all mended", 0, all.ambiguous());
    }

    private static void waysFromOneOn() {
        Sentences.test("Promise 31", "Returns in how many ways the song can be read.");
        Check.due("of an empty way", 1, new MapSongs().ways());
        Check.due("of one reading each", 1, Songs.flat(16).ways());
        Check.due("of one ambiguous verse", 2, Songs.ambiguousFlat(1).ways());
        Check.due("of all of two readings", 65536, Songs.ambiguousFlat(16).ways());
        Check.due("of all mended", 1, allMended().ways());
        Check.due("of more than are told", 1000000000L, Songs.mostAmbiguous().ways());
    }

    private static void firstAmbiguousOfNone() {
        Sentences.test("Promise 32", "-1 if there is none.");
        Check.due("of an empty way", -1, new MapSongs().firstAmbiguous());
        Check.due("of one reading each", -1, Songs.flat(16).firstAmbiguous());
        MapSongs song = Songs.ambiguousFlat(16);
        for (int leg = 0; leg < 16; leg++) {
            Check.due("behind those mended", leg, song.firstAmbiguous());
            song.mend(leg);
        }
        Check.due("of all mended", -1, song.firstAmbiguous());
        while (song.legs() > 0) {
            song.strikeLeg();
        }
        Check.due("of all struck", -1, song.firstAmbiguous());
    }

    /** How many verses are ambiguous when the word is set, by which none is mended. */
    private static int ambiguousWhenSet(Songs.Maker maker, int landmark, int word) {
        MapSongs twin = maker.make();
        twin.setWord(landmark, word);
        return twin.ambiguous();
    }

    private static final Songs.Maker[] MAKERS = {
        MapSongs::new, Songs::ordinary, Songs::full, Songs::mostAmbiguous, PromiseBoundaries::allMended,
        PromiseBoundaries::ofFourSizes, PromiseBoundaries::manyTies,
    };

    /** Ambiguous by turns in some verses whose landmark is alone on the way, and by words in others. */
    private static MapSongs manyTies() {
        MapSongs song = Songs.turning(3, 3);
        song.addLeg(3, 1, 9);
        song.addLeg(3, 1, 8);
        song.addLeg(-1, 1, 9);
        song.addLeg(2, 1, 7);
        song.setWord(0, 7);
        song.setWord(2, 9);
        return song;
    }

    private static void ambiguousWithChangesNothing() {
        Sentences.test("Promise 33", "if the landmark had this word, and none was mended (nothing is changed).");
        for (Songs.Maker maker : MAKERS) {
            MapSongs song = maker.make();
            for (int landmark = 0; landmark <= 9; landmark++) {
                for (int word = 0; word <= 9; word++) {
                    Check.due("ambiguousWith(" + landmark + ", " + word + ")",
                        ambiguousWhenSet(maker, landmark, word), song.ambiguousWith(landmark, word));
                }
            }
            Check.dueText("nothing is changed", Songs.answers(maker.make()), Songs.answers(song));
        }
    }

    private static void ambiguousWithRefuses() {
        Sentences.test("Promise 33", "Throws `IndexOutOfBoundsException` if landmark or word is not 0 to 9");
        for (Songs.Maker maker : new Songs.Maker[] {MapSongs::new, Songs::full}) {
            Songs.takes("ambiguousWith, landmark", 0, 9, Songs.INDEX, maker, (s, n) -> s.ambiguousWith(n, 9));
            Songs.takes("ambiguousWith, word", 0, 9, Songs.INDEX, maker, (s, n) -> s.ambiguousWith(9, n));
            Songs.takes("ambiguousWith, both", 0, 9, Songs.INDEX, maker, (s, n) -> s.ambiguousWith(n, n));
        }
    }

    private static void bestWordIsTheSmallest() {
        Sentences.test("Promise 34", "if none was mended, of several the smallest number (nothing is changed).");
        for (Songs.Maker maker : MAKERS) {
            MapSongs song = maker.make();
            for (int landmark = 0; landmark <= 9; landmark++) {
                int due = 0;
                for (int word = 1; word <= 9; word++) {
                    if (ambiguousWhenSet(maker, landmark, word) < ambiguousWhenSet(maker, landmark, due)) {
                        due = word;
                    }
                }
                Check.due("bestWord(" + landmark + ")", due, song.bestWord(landmark));
            }
            Check.dueText("nothing is changed", Songs.answers(maker.make()), Songs.answers(song));
        }
        Check.due("all alike", 0, new MapSongs().bestWord(5));
        Check.due("all alike, for all are ambiguous", 0, allOfOneWordBut9().bestWord(9));
        Check.due("all but the first alike", 1, Songs.flat(16).bestWord(9));
        Check.due("only the last one", 9, Songs.past(0, 1, 2, 3, 4, 5, 6, 7, 8).bestWord(9));
    }

    /** All verses are ambiguous by the words of the landmarks 0 to 8, whatever word 9 has. */
    private static MapSongs allOfOneWordBut9() {
        MapSongs song = Songs.flat(3);
        Songs.shareWord(song, 0, 8, 3);
        return song;
    }

    private static void bestWordRefusesALandmark() {
        Sentences.test("Promise 34", NO_SUCH_LANDMARK);
        Songs.takes("bestWord", 0, 9, Songs.INDEX, Songs::full, MapSongs::bestWord);
        Songs.takes("bestWord of an empty way", 0, 9, Songs.INDEX, MapSongs::new, MapSongs::bestWord);
    }

    private static void bestStepIsTheSmallest() {
        Sentences.test("Promise 35", "if none was mended, of several the smallest one (nothing is changed).");
        for (Songs.Maker maker : MAKERS) {
            bestStepIsTheSmallest(maker);
        }
        int[][] ways = {{3, 3, 2, 3, -2, 3, -2, -3}, {3, 3, 2, 3, -2, 3, -1, 1, 1, -2}, {3, 1, 2, 2, 3, -2, 3, -1, 2},
            {3, 3, 3, 3, 1, 1, -2, -3}, {-3, -2, -3, -1, -2, 2, -2, 2, -2, -2}, {3, 3, 3, 3, 3, 3, 3, 3, 3, 3}};
        for (int[] turns : ways) {
            bestStepIsTheSmallest(() -> Songs.turning(turns));
        }
        Check.due("all alike, for there is no verse", 1, new MapSongs().bestStep());
        Check.due("all alike, for none is ambiguous", 1, Songs.flat(16).bestStep());
        Check.due("all alike, for all are ambiguous", 1, Songs.mostAmbiguous().bestStep());
        Check.due("2 and 3 alike", 2, Songs.turning(3, 1, 2, 2, 3, -2, 3, -1, 2).bestStep());
        Check.due("only 4", 4, Songs.turning(-3, -2, -3, -1, -2, 2, -2, 2, -2, -2).bestStep());
    }

    private static void bestStepIsTheSmallest(Songs.Maker maker) {
        int due = 0;
        int fewest = 17;
        for (int step = 1; step <= 4; step++) {
            MapSongs twin = maker.make();
            twin.setStep(step);
            if (twin.ambiguous() < fewest) {
                fewest = twin.ambiguous();
                due = step;
            }
        }
        for (int step = 1; step <= 4; step++) {
            MapSongs song = maker.make();
            song.setStep(step);
            Check.due("bestStep from step " + step, due, song.bestStep());
        }
        MapSongs song = maker.make();
        Check.due("bestStep", due, song.bestStep());
        Check.dueText("nothing is changed", Songs.answers(maker.make()), Songs.answers(song));
    }

    private static void meanNoteWithoutAny() {
        Sentences.test("Promise 36", "0 without any.");
        MapSongs song = new MapSongs();
        Check.dueDouble("without any", 0.0, song.meanNote());
        Check.due("and not less than 0 by its sign", 0, Double.doubleToRawLongBits(song.meanNote()));
        song.addLeg(-3, 1, 0);
        Check.dueDouble("of one", 6.0, song.meanNote());
        song.addLeg(-3, 1, 0);
        Check.dueDouble("of two, one of them 0", 3.0, song.meanNote());
        song.addLeg(1, 1, 0);
        Check.dueDouble("of three", 8.0 / 3.0, song.meanNote());
        song.strikeLeg();
        song.strikeLeg();
        song.strikeLeg();
        Check.dueDouble("without any again", 0.0, song.meanNote());
        MapSongs seven = Songs.turning(1, 0, 0, 0, 0, 0, 1);
        Check.dueDouble("of seven", 100.0 / 7.0, seven.meanNote());
    }

    private static void digestStarts() {
        Sentences.test("Promise 37", "A number d starts with 1051;");
        Check.due("of a new object", digestOfNew(), new MapSongs().digest());
    }

    private static void digestWrapsAround() {
        Sentences.test("Promise 37", "which wraps around as a 64-bit integer");
        boolean below = false;
        boolean above = false;
        for (Songs.Maker maker : MAKERS) {
            BigInteger whole = digestInFull(maker.make());
            Check.due("it is more than 64 bits", true, whole.bitLength() > 64);
            long due = whole.longValue();
            below |= due < 0;
            above |= due > 0;
            Check.due("digest", due, maker.make().digest());
        }
        for (int turn = -3; turn <= 3; turn++) {
            MapSongs song = farthest(turn);
            long due = digestInFull(song).longValue();
            below |= due < 0;
            above |= due > 0;
            Check.due("digest, far off", due, song.digest());
        }
        Check.due("some digest is less than 0", true, below);
        Check.due("some digest is more than 0", true, above);
    }

    /** The checksum before it wraps around. */
    private static BigInteger digestInFull(MapSongs s) {
        BigInteger d = added(BigInteger.valueOf(1051), s.legs(), s.step(), s.endX(), s.endY(), s.stepsHome(),
            s.returns(), s.beats(), s.folded(), s.range(), s.ambiguous(), s.ways(), s.bestStep());
        for (int leg = 0; leg < s.legs(); leg++) {
            d = added(d, s.turnOf(leg), s.headingOf(leg), s.landmarkOf(leg), s.noteOf(leg), s.wordIn(leg),
                s.readings(leg), s.rightReading(leg), Songs.one(s.isMended(leg)));
        }
        for (int landmark = 0; landmark <= 9; landmark++) {
            d = added(d, s.wordOf(landmark), s.bestWord(landmark));
        }
        return d;
    }

    private static BigInteger added(BigInteger start, long... numbers) {
        BigInteger d = start;
        for (long x : numbers) {
            d = d.multiply(BigInteger.valueOf(31)).add(BigInteger.valueOf(x));
        }
        return d;
    }
}
