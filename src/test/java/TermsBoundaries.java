import java.util.ArrayList;
import java.util.List;

/** A test for each sentence of 'What it is' and 'Terms' that names a boundary case. */
final class TermsBoundaries {
    private static final int[] EAST = {0, 1, 1, 1, 0, -1, -1, -1};
    private static final int[] NORTH = {1, 1, 0, -1, -1, -1, 0, 1};

    /** A call that a song refuses, and by what. */
    private record Refusal(String name, Class<? extends RuntimeException> by, Songs.Maker maker, Call call) {
    }

    private interface Call {
        long answer(MapSongs song);
    }

    private TermsBoundaries() {
    }

    static void test() {
        usedFor512Calls();
        atMost16Legs();
        wayBeginsAtItsBeginning();
        headingsWrapAround();
        turnsToLeftAndRight();
        lengths();
        landmarks();
        notesStayInTheVoice();
        noteAheadOfTheFirstVerse();
        stepIsTwoAtFirst();
        notesAtTheRims();
        words();
        wordsAtFirst();
        orderOfReadings();
        ambiguousFromTwoReadingsOn();
        waysMultiplied();
        refusedCallsChangeNothing();
        firstNamedExceptionFirst();
    }

    private static void usedFor512Calls() {
        Sentences.test("What it is", "at most 512 calls");
        MapSongs used = Songs.full();
        MapSongs fresh = Songs.full();
        // Songs.full() has made 22 calls.
        for (int call = 23; call <= 510; call++) {
            Check.due("call " + call, 16, used.legs());
        }
        Check.due("call 511", fresh.mend(4), used.mend(4));
        Check.due("call 512", fresh.digest(), used.digest());
        MapSongs grown = new MapSongs();
        for (int call = 0; call < 511; call += 2) {
            Check.due("call " + (call + 1) + " adds a leg", 0, grown.addLeg(1, 9, 9));
            Check.due("call " + (call + 2) + " strikes it", 9, grown.strikeLeg());
        }
    }

    private static void atMost16Legs() {
        Sentences.test("Terms", "At most 16 legs, numbered from 0.");
        MapSongs song = new MapSongs();
        for (int leg = 0; leg < 16; leg++) {
            Check.due("leg " + leg, leg, song.addLeg(leg % 7 - 3, 1, leg % 10));
        }
        Check.refused("leg 16", Songs.STATE, song, () -> song.addLeg(0, 1, 0));
        for (int leg = 0; leg < 16; leg++) {
            Check.due("turn of leg " + leg, leg % 7 - 3, song.turnOf(leg));
            Check.due("landmark of leg " + leg, leg % 10, song.landmarkOf(leg));
        }
    }

    private static void wayBeginsAtItsBeginning() {
        Sentences.test("Terms", "It begins at the place 0, 0 with the heading 0.");
        MapSongs song = new MapSongs();
        Check.due("endX at first", 0, song.endX());
        Check.due("endY at first", 0, song.endY());
        song.addLeg(0, 3, 0);
        Check.due("heading without a turn", 0, song.headingOf(0));
        Check.due("endX of it", 0, song.endX());
        Check.due("endY of it", 3, song.endY());
        song.bend(0, 3);
        song.strikeLeg();
        Check.due("endX when all is struck", 0, song.endX());
        Check.due("endY when all is struck", 0, song.endY());
        song.addLeg(0, 2, 0);
        Check.due("the heading begins anew", 0, song.headingOf(0));
        Check.due("the place begins anew", 2, song.endY());
    }

    private static void headingsWrapAround() {
        Sentences.test("Terms", "Headings are 0 to 7");
        for (int before = 0; before <= 7; before++) {
            for (int turn = -3; turn <= 3; turn++) {
                MapSongs song = heading(before);
                int x = song.endX();
                int y = song.endY();
                int leg = song.addLeg(turn, 5, 0);
                int due = (before + turn + 8) % 8;
                String name = before + " and " + turn + " eighths";
                Check.due(name + ", heading", due, song.headingOf(leg));
                Check.due(name + ", x", 5 * EAST[due], song.endX() - x);
                Check.due(name + ", y", 5 * NORTH[due], song.endY() - y);
            }
        }
        MapSongs round = Songs.turning(-3, -3, -3, -3, -3, -3, -3, -3, -3, -3, -3, -3, -3, -3, -3, -3);
        MapSongs other = Songs.turning(3, 3, 3, 3, 3, 3, 3, 3, 3, 3, 3, 3, 3, 3, 3, 3);
        for (int leg = 0; leg < 16; leg++) {
            Check.due("to the left, heading " + leg, Math.floorMod(-3 * (leg + 1), 8), round.headingOf(leg));
            Check.due("to the right, heading " + leg, 3 * (leg + 1) % 8, other.headingOf(leg));
        }
    }

    /** Three legs behind which the heading is this one. */
    private static MapSongs heading(int heading) {
        return Songs.turning(Math.min(heading, 3), Math.max(0, Math.min(heading - 3, 3)), Math.max(0, heading - 6));
    }

    private static void turnsToLeftAndRight() {
        Sentences.test("Terms", "A leg turns by -3 to 3 eighths, to the left if less than 0;");
        int[] due = {5, 6, 7, 0, 1, 2, 3};
        for (int turn = -3; turn <= 3; turn++) {
            Check.due("heading of turn " + turn, due[turn + 3], Songs.turning(turn).headingOf(0));
        }
        Songs.takes("turn", -3, 3, Songs.ARGUMENT, Songs::ordinary, (s, turn) -> s.addLeg(turn, 1, 0));
    }

    private static void lengths() {
        Sentences.test("Terms", "1 to 9 steps");
        for (int length = 1; length <= 9; length++) {
            MapSongs song = new MapSongs();
            song.addLeg(2, length, 0);
            Check.due("x by length " + length, length, song.endX());
        }
        Songs.takes("length", 1, 9, Songs.ARGUMENT, Songs::ordinary, (s, length) -> s.addLeg(0, length, 0));
    }

    private static void landmarks() {
        Sentences.test("Terms", "Its landmark is 0 to 9.");
        for (int landmark = 0; landmark <= 9; landmark++) {
            Check.due("landmark", landmark, Songs.past(landmark).landmarkOf(0));
        }
        Songs.takes("landmark", 0, 9, Songs.ARGUMENT, Songs::ordinary, (s, landmark) -> s.addLeg(0, 1, landmark));
    }

    private static void notesStayInTheVoice() {
        Sentences.test("Terms", "A verse for each leg, with a note, 0 to 24.");
        for (int step = 1; step <= 4; step++) {
            for (int turn = -3; turn <= 3; turn++) {
                MapSongs song = Songs.turning(turn, turn, turn, turn, turn, turn, turn, turn, turn, turn, turn, turn);
                song.setStep(step);
                for (int leg = 0; leg < song.legs(); leg++) {
                    int note = song.noteOf(leg);
                    Check.due("note " + note + " is in the voice", true, 0 <= note && note <= 24);
                }
            }
        }
        Check.due("the highest note", 24, Songs.turning(3, 3).noteOf(1));
        Check.due("the lowest note", 0, Songs.turning(-3, -3).noteOf(1));
    }

    private static void noteAheadOfTheFirstVerse() {
        Sentences.test("Terms", "The note ahead of the first verse is 12.");
        for (int step = 1; step <= 4; step++) {
            for (int turn = -3; turn <= 3; turn++) {
                MapSongs song = Songs.turning(turn);
                song.setStep(step);
                Check.due("first note", 12 + turn * step, song.noteOf(0));
                Check.due("the first one is never folded", false, song.isFolded(0));
            }
        }
    }

    private static void stepIsTwoAtFirst() {
        Sentences.test("Terms", "The interval is the turn times the step, which is 1 to 4 (2, at first).");
        Check.due("step at first", 2, new MapSongs().step());
        Check.due("interval at first", 6, Songs.turning(3).noteOf(0) - 12);
        Songs.takes("step", 1, 4, Songs.ARGUMENT, Songs::ordinary, MapSongs::setStep);
    }

    /** Behind every note that can be sung, by every turn and step. */
    private static void notesAtTheRims() {
        Sentences.test("Terms", "The note of a verse is that ahead of it and the interval, added, if that is 0 to 24;");
        Sentences.test("Terms", "otherwise it is folded: that ahead of it less the interval.");
        for (int step = 1; step <= 4; step++) {
            for (int ahead = 12 % step; ahead <= 24; ahead += step) {
                for (int turn = -3; turn <= 3; turn++) {
                    MapSongs song = behind(ahead, step);
                    int leg = song.addLeg(turn, 1, 0);
                    int added = ahead + turn * step;
                    boolean folded = added < 0 || added > 24;
                    String name = "behind " + ahead + " by " + turn + " times " + step;
                    Check.due(name, folded ? ahead - turn * step : added, song.noteOf(leg));
                    Check.due(name + ", folded", folded, song.isFolded(leg));
                }
            }
        }
    }

    /** A way whose last note is this one, reached without a fold. */
    private static MapSongs behind(int note, int step) {
        MapSongs song = Songs.turning(0);
        song.setStep(step);
        int left = (note - 12) / step;
        while (left != 0) {
            int turn = Math.max(-3, Math.min(left, 3));
            song.addLeg(turn, 1, 0);
            left -= turn;
        }
        Check.due("the way to the note ahead", note, song.noteOf(song.legs() - 1));
        return song;
    }

    private static void words() {
        Sentences.test("Terms", "Words are 0 to 9;");
        for (int word = 0; word <= 9; word++) {
            MapSongs song = Songs.past(5);
            song.setWord(5, word);
            Check.due("word", word, song.wordIn(0));
            Check.due("sung once", 1, song.sungWith(word));
        }
        Songs.takes("word", 0, 9, Songs.ARGUMENT, Songs::ordinary, (s, word) -> s.setWord(5, word));
    }

    private static void wordsAtFirst() {
        Sentences.test("Terms", "each landmark has one, at first that of its own number.");
        for (int landmark = 0; landmark <= 9; landmark++) {
            Check.due("wordOf at first", landmark, new MapSongs().wordOf(landmark));
            Check.due("wordIn at first", landmark, Songs.past(landmark).wordIn(0));
        }
    }

    /** Lists the readings by singing every pair behind every note, and asks each pair which one it is. */
    private static void orderOfReadings() {
        Sentences.test("Terms", "They are ordered by turns, then by landmarks, from the smallest one on.");
        int[][] wordTables = {
            {0, 1, 2, 3, 4, 5, 6, 7, 8, 9}, {0, 0, 0, 0, 0, 0, 0, 0, 0, 0}, {9, 1, 9, 1, 4, 4, 6, 7, 0, 9},
        };
        for (int[] table : wordTables) {
            for (int step = 1; step <= 4; step++) {
                for (int ahead = 12 % step; ahead <= 24; ahead += step) {
                    orderOfReadings(table, ahead, step);
                }
            }
        }
    }

    private static void orderOfReadings(int[] words, int ahead, int step) {
        List<String> sung = new ArrayList<>();
        List<MapSongs> songs = new ArrayList<>();
        for (int turn = -3; turn <= 3; turn++) {
            for (int landmark = 0; landmark <= 9; landmark++) {
                MapSongs song = behind(ahead, step);
                for (int named = 0; named <= 9; named++) {
                    song.setWord(named, words[named]);
                }
                int leg = song.addLeg(turn, 1, landmark);
                sung.add(song.noteOf(leg) + " " + song.wordIn(leg));
                songs.add(song);
            }
        }
        for (int pair = 0; pair < sung.size(); pair++) {
            long alike = sung.stream().filter(sung.get(pair)::equals).count();
            long smaller = sung.subList(0, pair).stream().filter(sung.get(pair)::equals).count();
            MapSongs song = songs.get(pair);
            int leg = song.legs() - 1;
            String name = "behind " + ahead + " by " + step + ", pair " + pair;
            Check.due(name + ", readings", alike, song.readings(leg));
            Check.due(name + ", rightReading", smaller, song.rightReading(leg));
        }
    }

    private static void ambiguousFromTwoReadingsOn() {
        Sentences.test("Terms", "A verse is ambiguous, if it has more than one reading and is not mended.");
        MapSongs one = Songs.past(0);
        Check.due("one reading", 1, one.readings(0));
        Check.due("of one reading", false, one.isAmbiguous(0));
        MapSongs two = Songs.ambiguousFlat(2);
        Check.due("two readings", 2, two.readings(0));
        Check.due("of two readings", true, two.isAmbiguous(0));
        two.mend(0);
        Check.due("two readings as ever", 2, two.readings(0));
        Check.due("of two, but mended", false, two.isAmbiguous(0));
        Check.due("of two behind a mended one", true, two.isAmbiguous(1));
    }

    private static void waysMultiplied() {
        Sentences.test("Terms", "multiplied, told as 1000000000 if that is more.");
        MapSongs less = Songs.past(0, 0, 0, 0, 0, 0, 0, 0, 0, 0, 9, 9, 9, 9, 9);
        Songs.shareWord(less, 0, 2, 0);
        Songs.shareWord(less, 3, 9, 9);
        Check.due("3 to the 10th by 7 to the 5th", 992436543L, less.ways());
        MapSongs just = Songs.flat(9);
        Songs.shareWord(just, 0, 9, 0);
        Check.due("10 to the 9th", 1000000000L, just.ways());
        MapSongs more = Songs.past(0, 0, 0, 0, 0, 9, 9, 9, 9, 9, 9, 9, 9, 9, 9, 9);
        Songs.shareWord(more, 0, 2, 0);
        Songs.shareWord(more, 6, 9, 9);
        Check.due("3 to the 5th by 4 to the 11th", 1000000000L, more.ways());
        MapSongs most = Songs.mostAmbiguous();
        Check.due("10 by 20 to the 15th, more than 64 bits", 1000000000L, most.ways());
        // The product passes through each size on its way down, so a cut or a wrap-around anywhere would show.
        long[] due = {1000000000L, 1000000000L, 1000000000L, 1000000000L, 1000000000L, 1000000000L, 1000000000L,
            1000000000L, 1000000000L, 640000000L, 32000000L, 1600000L, 80000L, 4000L, 200L, 10L};
        for (int mended = 1; mended < 16; mended++) {
            most.mend(mended);
            Check.due("10 by 20 to the " + (15 - mended) + "th", due[mended], most.ways());
        }
    }

    private static void refusedCallsChangeNothing() {
        Sentences.test("Terms", "A method that throws an exception changes nothing.");
        for (Refusal refusal : refusals()) {
            MapSongs song = refusal.maker().make();
            Check.dueText(refusal.name(), "throws " + refusal.by().getName(),
                Check.outcome(() -> refusal.call().answer(song)));
            MapSongs twin = refusal.maker().make();
            Check.dueText("behind " + refusal.name(), Songs.answers(twin), Songs.answers(song));
            Check.dueText("lengths behind " + refusal.name(), Songs.lengthsStruck(twin), Songs.lengthsStruck(song));
        }
    }

    private static List<Refusal> refusals() {
        List<Refusal> all = new ArrayList<>();
        for (Songs.Maker maker : List.<Songs.Maker>of(Songs::ordinary, Songs::full)) {
            all.add(new Refusal("addLeg of a turn", Songs.ARGUMENT, maker, s -> s.addLeg(4, 2, 2)));
            all.add(new Refusal("addLeg of a length", Songs.ARGUMENT, maker, s -> s.addLeg(2, 10, 2)));
            all.add(new Refusal("addLeg of a landmark", Songs.ARGUMENT, maker, s -> s.addLeg(2, 2, 10)));
            all.add(new Refusal("bend of a leg", Songs.INDEX, maker, s -> s.bend(16, 2)));
            all.add(new Refusal("bend by a turn", Songs.ARGUMENT, maker, s -> s.bend(1, -4)));
            all.add(new Refusal("setWord of a landmark", Songs.INDEX, maker, s -> s.setWord(-1, 2)));
            all.add(new Refusal("setWord to a word", Songs.ARGUMENT, maker, s -> s.setWord(1, 10)));
            all.add(new Refusal("setStep", Songs.ARGUMENT, maker, s -> s.setStep(5)));
            all.add(new Refusal("mend of no leg", Songs.INDEX, maker, s -> s.mend(16)));
            all.add(new Refusal("mend of one reading", Songs.STATE, maker, s -> s.mend(1)));
            all.add(new Refusal("mendTo", Songs.ARGUMENT, maker, s -> s.mendTo(0)));
            all.add(new Refusal("ambiguousWith", Songs.INDEX, maker, s -> s.ambiguousWith(1, 10)));
            all.add(new Refusal("bestWord", Songs.INDEX, maker, s -> s.bestWord(10)));
            all.add(new Refusal("sungWith", Songs.INDEX, maker, s -> s.sungWith(10)));
            all.add(new Refusal("noteOf", Songs.INDEX, maker, s -> s.noteOf(-1)));
        }
        all.add(new Refusal("addLeg to 16", Songs.STATE, Songs::full, s -> s.addLeg(2, 2, 2)));
        all.add(new Refusal("mend of a mended one", Songs.STATE, Songs::full, s -> s.mend(3)));
        all.add(new Refusal("strikeLeg of none", Songs.STATE, MapSongs::new, s -> s.strikeLeg()));
        all.add(new Refusal("bend of none", Songs.INDEX, MapSongs::new, s -> s.bend(0, 0)));
        all.add(new Refusal("mend of none", Songs.INDEX, MapSongs::new, s -> s.mend(0)));
        return all;
    }

    private static void firstNamedExceptionFirst() {
        Sentences.test("Terms", "If several exceptions apply, the one that is named first is thrown.");
        MapSongs full = Songs.full();
        Check.refused("addLeg, all wrong", Songs.ARGUMENT, full, () -> full.addLeg(4, 10, 10));
        Check.refused("addLeg to 16 of a turn", Songs.ARGUMENT, full, () -> full.addLeg(-4, 1, 0));
        Check.refused("addLeg to 16 of a length", Songs.ARGUMENT, full, () -> full.addLeg(0, 0, 0));
        Check.refused("addLeg to 16 of a landmark", Songs.ARGUMENT, full, () -> full.addLeg(0, 1, -1));
        MapSongs song = Songs.ordinary();
        Check.refused("bend, both wrong", Songs.INDEX, song, () -> song.bend(5, 4));
        Check.refused("bend, both below", Songs.INDEX, song, () -> song.bend(-1, -4));
        Check.refused("setWord, both wrong", Songs.INDEX, song, () -> song.setWord(10, 10));
        Check.refused("setWord, both below", Songs.INDEX, song, () -> song.setWord(-1, -1));
        Check.refused("ambiguousWith, both wrong", Songs.INDEX, song, () -> song.ambiguousWith(10, -1));
        Check.refused("mend of no leg, that is not ambiguous either", Songs.INDEX, song, () -> song.mend(5));
        MapSongs empty = new MapSongs();
        Check.refused("bend of none by a wrong turn", Songs.INDEX, empty, () -> empty.bend(0, 4));
    }
}
