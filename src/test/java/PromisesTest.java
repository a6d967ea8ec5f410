/** Each promise of the document by itself: ordinary inputs, its edges, and wrong inputs. */
public final class PromisesTest {
    private static final Class<IndexOutOfBoundsException> INDEX = IndexOutOfBoundsException.class;
    private static final Class<IllegalArgumentException> ARGUMENT = IllegalArgumentException.class;
    private static final Class<IllegalStateException> STATE = IllegalStateException.class;
    private static final int LEAST = Integer.MIN_VALUE;
    private static final int MOST = Integer.MAX_VALUE;

    public static void main(String[] args) {
        promise1NewObject();
        promise2AddLeg();
        promise2AddLegToFullWay();
        promise3StrikeLeg();
        promise4Bend();
        promise5SetWord();
        promise6SetStep();
        promises7And8LegsAndStep();
        promises9And10End();
        promise11StepsHome();
        promise12Returns();
        promise13TurnOf();
        promise14HeadingOf();
        promise15LandmarkOf();
        promise16NoteOf();
        promise17IsFolded();
        promises18And19Words();
        promise20Beats();
        promise21Folded();
        promise22Range();
        promise23SungWith();
        promise24Readings();
        promise25RightReading();
        promise26IsAmbiguous();
        promise27IsMended();
        promise28Mend();
        promise29MendTo();
        promise29MendToOrder();
        promise30Ambiguous();
        promise31Ways();
        promise32FirstAmbiguous();
        promise33AmbiguousWith();
        promise34BestWord();
        promise35BestStep();
        promise36MeanNote();
        promise37Digest();
        objectsAreApart();
        Check.end("PromisesTest");
    }

    /** A way of legs of length 1 past landmark 0, with these turns. */
    private static MapSongs turning(int... turns) {
        MapSongs song = new MapSongs();
        for (int turn : turns) {
            song.addLeg(turn, 1, 0);
        }
        return song;
    }

    /** A way straight on past these landmarks. */
    private static MapSongs past(int... landmarks) {
        MapSongs song = new MapSongs();
        for (int landmark : landmarks) {
            song.addLeg(0, 1, landmark);
        }
        return song;
    }

    /** Landmarks 0 to count - 1 all get the word 0. */
    private static void shareWord(MapSongs song, int count) {
        for (int landmark = 0; landmark < count; landmark++) {
            song.setWord(landmark, 0);
        }
    }

    /** Legs past landmarks of 2, 3, 4 and 3 readings: words 0 0, 2 2 2, 5 5 5 5. */
    private static MapSongs severalReadings() {
        MapSongs song = past(0, 2, 5, 3, 9);
        song.setWord(1, 0);
        song.setWord(3, 2);
        song.setWord(4, 2);
        song.setWord(6, 5);
        song.setWord(7, 5);
        song.setWord(8, 5);
        return song;
    }

    private interface OfLeg {
        long answer(MapSongs song, int leg);
    }

    /** The call refuses every leg that there is not, in this song, in an empty one and in a full one. */
    private static void refusesLegs(String name, MapSongs song, OfLeg call) {
        for (int leg : new int[] {-1, song.legs(), song.legs() + 1, 16, 17, LEAST, MOST}) {
            Check.refused(name + "(" + leg + ")", INDEX, song, () -> call.answer(song, leg));
        }
        MapSongs empty = new MapSongs();
        Check.refused(name + " without legs", INDEX, empty, () -> call.answer(empty, 0));
        MapSongs full = past(0, 0, 0, 0, 0, 0, 0, 0, 0, 0, 0, 0, 0, 0, 0, 0);
        Check.refused(name + " of a full way", INDEX, full, () -> call.answer(full, 16));
    }

    private static void promise1NewObject() {
        MapSongs song = new MapSongs();
        Check.due("new: legs", 0, song.legs());
        Check.due("new: step", 2, song.step());
        Check.due("new: endX", 0, song.endX());
        Check.due("new: endY", 0, song.endY());
        for (int landmark = 0; landmark <= 9; landmark++) {
            Check.due("new: wordOf(" + landmark + ")", landmark, song.wordOf(landmark));
        }
    }

    private static void promise2AddLeg() {
        MapSongs song = new MapSongs();
        Check.due("first leg", 0, song.addLeg(-3, 1, 0));
        Check.due("second leg", 1, song.addLeg(3, 9, 9));
        Check.due("its turn", 3, song.turnOf(1));
        Check.due("its landmark", 9, song.landmarkOf(1));
        Check.due("beats", 10, song.beats());
        for (int bad : new int[] {-4, 4, LEAST, MOST}) {
            Check.refused("addLeg turn " + bad, ARGUMENT, song, () -> song.addLeg(bad, 1, 0));
        }
        for (int bad : new int[] {0, 10, -1, LEAST, MOST}) {
            Check.refused("addLeg length " + bad, ARGUMENT, song, () -> song.addLeg(0, bad, 0));
        }
        for (int bad : new int[] {-1, 10, LEAST, MOST}) {
            Check.refused("addLeg landmark " + bad, ARGUMENT, song, () -> song.addLeg(0, 1, bad));
        }
        Check.due("legs behind those", 2, song.legs());
        song.setWord(9, 0);
        song.mend(0);
        song.addLeg(0, 1, 0);
        Check.due("a new leg leaves the others mended", true, song.isMended(0));
        Check.due("a new leg is not mended", false, song.isMended(2));
    }

    private static void promise2AddLegToFullWay() {
        MapSongs song = new MapSongs();
        for (int leg = 0; leg < 16; leg++) {
            Check.due("leg " + leg, leg, song.addLeg(0, 1, 0));
        }
        Check.refused("a leg too many", STATE, song, () -> song.addLeg(0, 1, 0));
        Check.refused("wrong turn first", ARGUMENT, song, () -> song.addLeg(4, 1, 0));
        Check.refused("wrong length first", ARGUMENT, song, () -> song.addLeg(0, 0, 0));
        Check.refused("wrong landmark first", ARGUMENT, song, () -> song.addLeg(0, 1, 10));
        song.strikeLeg();
        Check.due("room again", 15, song.addLeg(0, 1, 0));
    }

    private static void promise3StrikeLeg() {
        MapSongs song = past(4, 7, 0);
        song.setWord(7, 4);
        song.mend(0);
        song.mend(1);
        Check.due("strike the third", 0, song.strikeLeg());
        Check.due("strike the second", 7, song.strikeLeg());
        Check.due("legs", 1, song.legs());
        Check.due("the first is mended as ever", true, song.isMended(0));
        song.addLeg(0, 1, 7);
        Check.due("the mark went with its leg", false, song.isMended(1));
        song.strikeLeg();
        Check.due("strike the first", 4, song.strikeLeg());
        Check.due("legs", 0, song.legs());
        Check.due("endY", 0, song.endY());
        Check.refused("strike none", STATE, song, () -> song.strikeLeg());
    }

    private static void promise4Bend() {
        MapSongs song = turning(1, 0, 0);
        shareWord(song, 2);
        song.mend(0);
        song.mend(2);
        for (int bad : new int[] {-1, 3, 16, LEAST, MOST}) {
            Check.refused("bend leg " + bad, INDEX, song, () -> song.bend(bad, 0));
            Check.refused("bend leg " + bad + " wrongly", INDEX, song, () -> song.bend(bad, 4));
        }
        for (int bad : new int[] {-4, 4, LEAST, MOST}) {
            Check.refused("bend by " + bad, ARGUMENT, song, () -> song.bend(0, bad));
        }
        Check.due("bend", 1, song.bend(0, -3));
        Check.due("turnOf", -3, song.turnOf(0));
        Check.due("heading of it", 5, song.headingOf(0));
        Check.due("heading of the last", 5, song.headingOf(2));
        Check.due("note of the last", 6, song.noteOf(2));
        Check.due("endX", -3, song.endX());
        Check.due("endY", -3, song.endY());
        Check.due("the bent is not mended", false, song.isMended(0));
        Check.due("the last is not mended", false, song.isMended(2));
        song.mend(1);
        Check.due("bend as it is", -3, song.bend(0, -3));
        Check.due("no mark even so", false, song.isMended(1));
        Check.due("bend the middle", 0, song.bend(1, 3));
        Check.due("heading ahead stays", 5, song.headingOf(0));
        Check.due("heading of the middle", 0, song.headingOf(1));
    }

    private static void promise5SetWord() {
        MapSongs song = past(0, 1);
        Check.due("setWord", 1, song.setWord(1, 0));
        song.mend(0);
        for (int bad : new int[] {-1, 10, LEAST, MOST}) {
            Check.refused("setWord of " + bad, INDEX, song, () -> song.setWord(bad, 0));
            Check.refused("setWord of and to " + bad, INDEX, song, () -> song.setWord(bad, bad));
            Check.refused("setWord to " + bad, ARGUMENT, song, () -> song.setWord(0, bad));
        }
        Check.due("setWord again", 0, song.setWord(1, 9));
        Check.due("wordOf", 9, song.wordOf(1));
        Check.due("no mark", false, song.isMended(0));
        song.setWord(9, 0);
        song.mend(0);
        Check.due("setWord as it is", 7, song.setWord(7, 7));
        Check.due("no mark even so", false, song.isMended(0));
        Check.due("the least one", 0, song.setWord(0, 9));
        Check.due("the last one", 0, song.setWord(9, 0));
    }

    private static void promise6SetStep() {
        MapSongs song = turning(1, 1);
        shareWord(song, 2);
        song.mend(1);
        for (int bad : new int[] {0, 5, -1, LEAST, MOST}) {
            Check.refused("setStep " + bad, ARGUMENT, song, () -> song.setStep(bad));
        }
        Check.due("setStep 4", 2, song.setStep(4));
        Check.due("step", 4, song.step());
        Check.due("first note", 16, song.noteOf(0));
        Check.due("second note", 20, song.noteOf(1));
        Check.due("no mark", false, song.isMended(1));
        song.mend(0);
        Check.due("setStep as it is", 4, song.setStep(4));
        Check.due("no mark even so", false, song.isMended(0));
        Check.due("setStep 1", 4, song.setStep(1));
        Check.due("second note", 14, song.noteOf(1));
    }

    private static void promises7And8LegsAndStep() {
        MapSongs song = turning(1, 2, 3);
        Check.due("legs", 3, song.legs());
        song.strikeLeg();
        Check.due("legs less one", 2, song.legs());
        for (int step = 1; step <= 4; step++) {
            song.setStep(step);
            Check.due("step", step, song.step());
        }
    }

    private static void promises9And10End() {
        int[] east = {0, 1, 1, 1, 0, -1, -1, -1};
        int[] north = {1, 1, 0, -1, -1, -1, 0, 1};
        for (int heading = 0; heading <= 3; heading++) {
            MapSongs song = new MapSongs();
            song.addLeg(heading, 7, 0);
            Check.due("endX to " + heading, 7 * east[heading], song.endX());
            Check.due("endY to " + heading, 7 * north[heading], song.endY());
        }
        for (int heading = 5; heading <= 7; heading++) {
            MapSongs song = new MapSongs();
            song.addLeg(heading - 8, 7, 0);
            Check.due("endX to " + heading, 7 * east[heading], song.endX());
            Check.due("endY to " + heading, 7 * north[heading], song.endY());
        }
        MapSongs song = new MapSongs();
        song.addLeg(3, 2, 0);
        song.addLeg(1, 9, 0);
        Check.due("endX at last to the south", 2, song.endX());
        Check.due("endY at last to the south", -11, song.endY());
        MapSongs far = new MapSongs();
        for (int leg = 0; leg < 16; leg++) {
            far.addLeg(leg == 0 ? -3 : 0, 9, 0);
        }
        Check.due("farthest endX", -144, far.endX());
        Check.due("farthest endY", -144, far.endY());
    }

    private static void promise11StepsHome() {
        MapSongs song = new MapSongs();
        Check.due("at home", 0, song.stepsHome());
        song.addLeg(-3, 5, 0);
        Check.due("all across", 5, song.stepsHome());
        song.addLeg(1, 4, 0);
        Check.due("x the longer", 9, song.stepsHome());
        song.addLeg(-2, 9, 0);
        Check.due("y the longer", 14, song.stepsHome());
    }

    private static void promise12Returns() {
        Check.due("of an empty way", 0, new MapSongs().returns());
        Check.due("x as at the beginning", 0, turning(0).returns());
        Check.due("y as at the beginning", 0, turning(2).returns());
        MapSongs square = turning(0, 2, 2, 2);
        Check.due("the beginning", 1, square.returns());
        square.addLeg(2, 1, 0);
        Check.due("a place of a leg ahead", 2, square.returns());
        square.addLeg(0, 1, 0);
        Check.due("a new place", 2, square.returns());
        square.strikeLeg();
        square.strikeLeg();
        Check.due("less a leg", 1, square.returns());
        MapSongs over = new MapSongs();
        over.addLeg(0, 2, 0);
        over.addLeg(3, 1, 0);
        over.addLeg(2, 2, 0);
        Check.due("one that passes the beginning", 0, over.returns());
        MapSongs beside = new MapSongs();
        beside.addLeg(3, 9, 0);
        beside.addLeg(3, 1, 0);
        beside.addLeg(-2, 1, 0);
        Check.due("only one side alike", 0, beside.returns());
    }

    private static void promise13TurnOf() {
        MapSongs song = turning(-3, 0, 3);
        Check.due("turnOf(0)", -3, song.turnOf(0));
        Check.due("turnOf(1)", 0, song.turnOf(1));
        Check.due("turnOf(2)", 3, song.turnOf(2));
        refusesLegs("turnOf", song, MapSongs::turnOf);
    }

    private static void promise14HeadingOf() {
        MapSongs song = turning(3, 3, 3, -2, -3, -3);
        int[] want = {3, 6, 1, 7, 4, 1};
        for (int leg = 0; leg < want.length; leg++) {
            Check.due("headingOf(" + leg + ")", want[leg], song.headingOf(leg));
        }
        Check.due("headingOf to the left", 7, turning(-1).headingOf(0));
        refusesLegs("headingOf", song, MapSongs::headingOf);
    }

    private static void promise15LandmarkOf() {
        MapSongs song = past(9, 0, 4);
        song.setWord(9, 1);
        Check.due("landmarkOf(0)", 9, song.landmarkOf(0));
        Check.due("landmarkOf(1)", 0, song.landmarkOf(1));
        Check.due("landmarkOf(2)", 4, song.landmarkOf(2));
        refusesLegs("landmarkOf", song, MapSongs::landmarkOf);
        song.strikeLeg();
        Check.refused("landmarkOf the struck", INDEX, song, () -> song.landmarkOf(2));
    }

    private static void promise16NoteOf() {
        MapSongs song = turning(3, 3, 1, -1, 0);
        int[] want = {18, 24, 22, 20, 20};
        for (int leg = 0; leg < want.length; leg++) {
            Check.due("noteOf(" + leg + ")", want[leg], song.noteOf(leg));
        }
        MapSongs low = turning(-3, -3, -1, 3);
        int[] wantLow = {6, 0, 2, 8};
        for (int leg = 0; leg < wantLow.length; leg++) {
            Check.due("low noteOf(" + leg + ")", wantLow[leg], low.noteOf(leg));
        }
        low.setStep(4);
        int[] wantFour = {0, 12, 8, 20};
        for (int leg = 0; leg < wantFour.length; leg++) {
            Check.due("noteOf(" + leg + ") by fours", wantFour[leg], low.noteOf(leg));
        }
        refusesLegs("noteOf", song, MapSongs::noteOf);
    }

    private static void promise17IsFolded() {
        MapSongs song = turning(3, 3, 1, 0);
        Check.due("isFolded(0)", false, song.isFolded(0));
        Check.due("up to 24 is not folded", false, song.isFolded(1));
        Check.due("past 24 is folded", true, song.isFolded(2));
        Check.due("isFolded(3)", false, song.isFolded(3));
        MapSongs low = turning(-3, -3, -1);
        Check.due("down to 0 is not folded", false, low.isFolded(1));
        Check.due("past 0 is folded", true, low.isFolded(2));
        MapSongs fours = turning(2, 2);
        Check.due("by twos", false, fours.isFolded(1));
        fours.setStep(4);
        Check.due("by fours", true, fours.isFolded(1));
        refusesLegs("isFolded", song, (s, leg) -> s.isFolded(leg) ? 1 : 0);
    }

    private static void promises18And19Words() {
        MapSongs song = past(9, 0, 9);
        Check.due("wordIn(0)", 9, song.wordIn(0));
        song.setWord(9, 3);
        Check.due("wordIn(0) set", 3, song.wordIn(0));
        Check.due("wordIn(1)", 0, song.wordIn(1));
        Check.due("wordIn(2)", 3, song.wordIn(2));
        refusesLegs("wordIn", song, MapSongs::wordIn);
        Check.due("wordOf(9)", 3, song.wordOf(9));
        Check.due("wordOf(3)", 3, song.wordOf(3));
        Check.due("wordOf(8)", 8, song.wordOf(8));
        for (int bad : new int[] {-1, 10, LEAST, MOST}) {
            Check.refused("wordOf(" + bad + ")", INDEX, song, () -> song.wordOf(bad));
        }
    }

    private static void promise20Beats() {
        MapSongs song = new MapSongs();
        Check.due("no beats", 0, song.beats());
        song.addLeg(0, 9, 0);
        song.addLeg(3, 4, 0);
        Check.due("beats", 13, song.beats());
        song.strikeLeg();
        Check.due("beats less a verse", 9, song.beats());
    }

    private static void promise21Folded() {
        MapSongs song = new MapSongs();
        Check.due("none folded", 0, song.folded());
        song.addLeg(3, 1, 0);
        song.addLeg(3, 1, 0);
        Check.due("still none", 0, song.folded());
        song.addLeg(3, 1, 0);
        song.addLeg(2, 1, 0);
        Check.due("one", 1, song.folded());
        song.addLeg(3, 1, 0);
        Check.due("two", 2, song.folded());
        song.setStep(1);
        Check.due("by ones", 1, song.folded());
    }

    private static void promise22Range() {
        MapSongs song = new MapSongs();
        Check.due("without verses", 0, song.range());
        song.addLeg(3, 1, 0);
        Check.due("of one verse: the note ahead of it does not count", 0, song.range());
        song.addLeg(-1, 1, 0);
        Check.due("of two", 2, song.range());
        song.addLeg(3, 1, 0);
        Check.due("of three", 6, song.range());
        MapSongs whole = turning(-3, -3, 3, 3, 3, 3);
        Check.due("the whole voice", 24, whole.range());
    }

    private static void promise23SungWith() {
        MapSongs song = past(0, 1, 1, 9);
        Check.due("sungWith(1)", 2, song.sungWith(1));
        Check.due("sungWith(0)", 1, song.sungWith(0));
        Check.due("sungWith(9)", 1, song.sungWith(9));
        Check.due("sungWith(5)", 0, song.sungWith(5));
        song.setWord(9, 1);
        Check.due("sungWith(1) then", 3, song.sungWith(1));
        for (int bad : new int[] {-1, 10, LEAST, MOST}) {
            Check.refused("sungWith(" + bad + ")", INDEX, song, () -> song.sungWith(bad));
        }
    }

    private static void promise24Readings() {
        MapSongs song = turning(1, 3, 3, 3);
        Check.due("only itself", 1, song.readings(0));
        Check.due("20 to 24: up and down are apart", 1, song.readings(1));
        Check.due("20, folded", 2, song.readings(2));
        shareWord(song, 3);
        Check.due("three landmarks of a word", 3, song.readings(0));
        Check.due("and two turns", 6, song.readings(2));
        shareWord(song, 10);
        Check.due("ten landmarks", 10, song.readings(0));
        Check.due("as many as can be", 20, song.readings(2));
        song.bend(2, 0);
        Check.due("turn 0 is alone", 10, song.readings(2));
        Check.due("an unfolded turn with a folded double", 2, readingsFromTop(-3));
        Check.due("a folded turn with its double", 2, readingsFromTop(3));
        MapSongs mended = turning(3, 3, 3);
        mended.mend(2);
        Check.due("a mark takes none away", 2, mended.readings(2));
        refusesLegs("readings", song, MapSongs::readings);
    }

    /** The readings of a verse behind the note 24. */
    private static int readingsFromTop(int turn) {
        return turning(3, 3, turn).readings(2);
    }

    private static void promise25RightReading() {
        MapSongs song = turning(3, 3, 3);
        Check.due("alone", 0, song.rightReading(0));
        Check.due("the greater turn of two", 1, song.rightReading(2));
        song.bend(2, -3);
        Check.due("the smaller turn of two", 0, song.rightReading(2));
        song.bend(2, 1);
        song.strikeLeg();
        song.addLeg(1, 1, 4);
        song.setWord(2, 4);
        song.setWord(7, 4);
        Check.due("turn 1, the landmark 4 of 2, 4 and 7", 4, song.rightReading(2));
        song.bend(2, -1);
        Check.due("turn -1, the landmark 4 of 2, 4 and 7", 1, song.rightReading(2));
        song.mend(2);
        Check.due("as ever when mended", 1, song.rightReading(2));
        refusesLegs("rightReading", song, MapSongs::rightReading);
    }

    private static void promise26IsAmbiguous() {
        MapSongs song = past(0, 1, 2);
        Check.due("one reading", false, song.isAmbiguous(0));
        song.setWord(1, 0);
        Check.due("two readings", true, song.isAmbiguous(0));
        Check.due("the other one too", true, song.isAmbiguous(1));
        Check.due("not the third", false, song.isAmbiguous(2));
        song.mend(0);
        Check.due("mended", false, song.isAmbiguous(0));
        Check.due("the other one still", true, song.isAmbiguous(1));
        Check.due("by its turns alone", true, turning(3, 3, -2).isAmbiguous(2));
        refusesLegs("isAmbiguous", song, (s, leg) -> s.isAmbiguous(leg) ? 1 : 0);
    }

    private static void promise27IsMended() {
        MapSongs song = past(0, 1, 2);
        song.setWord(1, 0);
        Check.due("not yet", false, song.isMended(1));
        song.mend(1);
        Check.due("mended", true, song.isMended(1));
        Check.due("not the one ahead", false, song.isMended(0));
        Check.due("one that needs none", false, song.isMended(2));
        refusesLegs("isMended", song, (s, leg) -> s.isMended(leg) ? 1 : 0);
    }

    private static void promise28Mend() {
        MapSongs song = past(0, 1, 2);
        song.setWord(1, 0);
        Check.due("mend(1)", 1, song.mend(1));
        Check.due("ways", 2, song.ways());
        Check.refused("mend(1) again", STATE, song, () -> song.mend(1));
        Check.refused("mend what needs none", STATE, song, () -> song.mend(2));
        Check.due("mend(0)", 0, song.mend(0));
        Check.due("ways then", 1, song.ways());
        refusesLegs("mend", song, MapSongs::mend);
    }

    private static void promise29MendTo() {
        MapSongs song = severalReadings();
        Check.due("ways", 2 * 3 * 4 * 3, song.ways());
        for (int bad : new int[] {0, 1000001, -1, LEAST, MOST}) {
            Check.refused("mendTo(" + bad + ")", ARGUMENT, song, () -> song.mendTo(bad));
        }
        Check.due("mendTo(1000000)", 0, song.mendTo(1000000));
        Check.due("mendTo as many as there are", 0, song.mendTo(72));
        Check.due("mendTo one less", 1, song.mendTo(71));
        Check.due("the most readings", true, song.isMended(2));
        Check.due("mendTo again", 1, song.mendTo(17));
        Check.due("of two the first", true, song.isMended(1));
        Check.due("not the second", false, song.isMended(3));
        Check.due("mendTo one", 2, song.mendTo(1));
        Check.due("ways at last", 1, song.ways());
        Check.due("what needs none is not mended", false, song.isMended(4));
        Check.due("mendTo one again", 0, song.mendTo(1));
        Check.due("mendTo of an empty way", 0, new MapSongs().mendTo(1));
    }

    private static void promise29MendToOrder() {
        MapSongs song = severalReadings();
        song.mend(2);
        Check.due("the mended one is passed over", 2, song.mendTo(2));
        Check.due("fewest readings last", true, song.isAmbiguous(0));
        MapSongs full = turning(0, 0, 0, 0, 0, 0, 0, 0, 0, 0, 0, 0, 0, 0, 0, 0);
        shareWord(full, 10);
        Check.due("10 to the sixteenth to a million", 10, full.mendTo(1000000));
        Check.due("the first ten", 10, full.firstAmbiguous());
        Check.due("ways then", 1000000, full.ways());
        Check.due("all the others", 6, full.mendTo(9));
    }

    private static void promise30Ambiguous() {
        MapSongs song = new MapSongs();
        Check.due("none", 0, song.ambiguous());
        MapSongs several = severalReadings();
        Check.due("four", 4, several.ambiguous());
        several.mend(1);
        Check.due("three", 3, several.ambiguous());
    }

    private static void promise31Ways() {
        Check.due("of an empty way", 1, new MapSongs().ways());
        Check.due("of one reading each", 1, past(0, 1, 2).ways());
        MapSongs song = turning(0, 0, 0, 0, 0, 0, 0, 0, 0);
        shareWord(song, 10);
        Check.due("just 1000000000", 1000000000L, song.ways());
        song.addLeg(0, 1, 0);
        Check.due("more", 1000000000L, song.ways());
        song.mend(0);
        song.mend(1);
        Check.due("less", 100000000L, song.ways());
        MapSongs most = turning(3, 3, 3, 3, 3, 3, 3, 3, 3, 3, 3, 3, 3, 3, 3, 3);
        shareWord(most, 10);
        most.setStep(4);
        Check.due("as many as can be", 1000000000L, most.ways());
    }

    private static void promise32FirstAmbiguous() {
        Check.due("of an empty way", -1, new MapSongs().firstAmbiguous());
        Check.due("the very first", 0, severalReadings().firstAmbiguous());
        MapSongs song = past(5, 0, 1);
        Check.due("of none", -1, song.firstAmbiguous());
        song.setWord(1, 0);
        Check.due("the second", 1, song.firstAmbiguous());
        song.mend(1);
        Check.due("the third", 2, song.firstAmbiguous());
        song.mend(2);
        Check.due("none left", -1, song.firstAmbiguous());
    }

    private static void promise33AmbiguousWith() {
        MapSongs song = past(0, 1, 1, 2, 7);
        song.setWord(1, 0);
        song.mend(0);
        long before = song.digest();
        Check.due("as it is, but none mended", 3, song.ambiguousWith(1, 0));
        Check.due("its own word", 0, song.ambiguousWith(1, 1));
        Check.due("a word of one more", 4, song.ambiguousWith(2, 0));
        Check.due("a word of another", 5, song.ambiguousWith(7, 2));
        Check.due("a landmark not on the way", 4, song.ambiguousWith(9, 7));
        Check.due("nothing is changed", before, song.digest());
        Check.due("mended as ever", true, song.isMended(0));
        Check.due("by turns", 1, turning(3, 3, 3).ambiguousWith(0, 0));
        for (int bad : new int[] {-1, 10, LEAST, MOST}) {
            Check.refused("ambiguousWith(" + bad + ", 0)", INDEX, song, () -> song.ambiguousWith(bad, 0));
            Check.refused("ambiguousWith(0, " + bad + ")", INDEX, song, () -> song.ambiguousWith(0, bad));
        }
    }

    private static void promise34BestWord() {
        MapSongs song = past(0, 1, 2);
        song.setWord(1, 0);
        song.mend(0);
        song.mend(1);
        long before = song.digest();
        Check.due("its old word is the only one free of all", 1, song.bestWord(1));
        Check.due("the other one's best", 1, song.bestWord(0));
        Check.due("2 as it is, for 0 is shared, 1 is free", 1, song.bestWord(2));
        Check.due("for one not on the way all but 2 are alike", 0, song.bestWord(9));
        Check.due("one not on the way had best not have its word", 1, past(0).bestWord(9));
        Check.due("nothing is changed", before, song.digest());
        bestWordAtRim();
        Check.due("of an empty way the smallest", 0, new MapSongs().bestWord(9));
        Check.due("the last word", 9, past(0, 1, 2, 3, 4, 5, 6, 7, 8, 9).bestWord(9));
        for (int bad : new int[] {-1, 10, LEAST, MOST}) {
            Check.refused("bestWord(" + bad + ")", INDEX, song, () -> song.bestWord(bad));
        }
    }

    /** A verse that is ambiguous by its turn alone is so with any word. */
    private static void bestWordAtRim() {
        MapSongs song = new MapSongs();
        song.addLeg(3, 1, 1);
        song.addLeg(3, 1, 1);
        song.addLeg(3, 1, 0);
        Check.due("the word of the folded verse costs nothing", 0, song.bestWord(9));
        MapSongs other = new MapSongs();
        other.addLeg(3, 1, 1);
        other.addLeg(3, 1, 1);
        other.addLeg(3, 1, 1);
        other.addLeg(0, 1, 0);
        Check.due("a folded verse counts once with every word", 2, other.bestWord(9));
    }

    private static void promise35BestStep() {
        Check.due("of an empty way", 1, new MapSongs().bestStep());
        Check.due("of a flat song", 1, turning(0, 0, 0).bestStep());
        Check.due("3, 2, 4, 4 ambiguous", 2, turning(3, 3, 2, 3, -2, 3, -2, -3).bestStep());
        Check.due("4, 2, 3, 3 ambiguous", 2, turning(3, 3, 2, 3, -2, 3, -1, 1, 1, -2).bestStep());
        Check.due("3, 2, 2, 4 ambiguous", 2, turning(3, 1, 2, 2, 3, -2, 3, -1, 2).bestStep());
        Check.due("3, 4, 2, 3 ambiguous", 3, turning(3, 3, 3, 3, 1, 1, -2, -3).bestStep());
        Check.due("3, 4, 3, 2 ambiguous", 4, turning(-3, -2, -3, -1, -2, 2, -2, 2, -2, -2).bestStep());
        MapSongs shared = turning(3, 3, 2, 3, -2, 3, -2, -3);
        shareWord(shared, 2);
        Check.due("all ambiguous by their word", 1, shared.bestStep());
        MapSongs song = turning(3, 3, 3);
        song.mend(2);
        long before = song.digest();
        Check.due("marks do not count", 1, song.bestStep());
        Check.due("nothing is changed", before, song.digest());
        Check.due("step as ever", 2, song.step());
    }

    private static void promise36MeanNote() {
        Check.dueDouble("without any", 0.0, new MapSongs().meanNote());
        Check.dueDouble("of one", 18.0, turning(3).meanNote());
        Check.dueDouble("of two", 16.0, turning(3, -2).meanNote());
        Check.dueDouble("of three", 44.0 / 3.0, turning(1, 0, 1).meanNote());
        MapSongs halves = turning(1, 1);
        halves.setStep(1);
        Check.dueDouble("a half", 13.5, halves.meanNote());
        halves.strikeLeg();
        Check.dueDouble("less a leg", 13.0, halves.meanNote());
        Check.dueDouble("of sixteen", 12.0, past(0, 0, 0, 0, 0, 0, 0, 0, 0, 0, 0, 0, 0, 0, 0, 0).meanNote());
    }

    private static void promise37Digest() {
        long d = 1051;
        for (int x : new int[] {0, 2, 0, 0, 0, 0, 0, 0, 0, 0, 1, 1}) {
            d = d * 31 + x;
        }
        for (int landmark = 0; landmark <= 9; landmark++) {
            d = (d * 31 + landmark) * 31;
        }
        Check.due("of a new object", d, new MapSongs().digest());
        MapSongs song = severalReadings();
        song.bend(1, 3);
        song.bend(2, -1);
        song.mend(0);
        Check.due("of a song", digestFromFace(song), song.digest());
        Check.due("asked twice", song.digest(), song.digest());
    }

    /** The checksum as the document tells it, from what the other calls answer. */
    private static long digestFromFace(MapSongs s) {
        long[] whole = {s.legs(), s.step(), s.endX(), s.endY(), s.stepsHome(), s.returns(), s.beats(), s.folded(),
            s.range(), s.ambiguous(), s.ways(), s.bestStep()};
        long d = added(1051, whole);
        for (int leg = 0; leg < s.legs(); leg++) {
            d = added(d, s.turnOf(leg), s.headingOf(leg), s.landmarkOf(leg), s.noteOf(leg), s.wordIn(leg),
                s.readings(leg), s.rightReading(leg), s.isMended(leg) ? 1 : 0);
        }
        for (int landmark = 0; landmark <= 9; landmark++) {
            d = added(d, s.wordOf(landmark), s.bestWord(landmark));
        }
        return d;
    }

    private static long added(long start, long... numbers) {
        long d = start;
        for (long x : numbers) {
            d = d * 31 + x;
        }
        return d;
    }

    private static void objectsAreApart() {
        MapSongs one = new MapSongs();
        MapSongs other = new MapSongs();
        one.addLeg(1, 1, 1);
        one.setWord(1, 7);
        one.setStep(4);
        Check.due("another object's digest", new MapSongs().digest(), other.digest());
    }
}
