/** Songs to test with, and all that can be asked of one. */
final class Songs {
    static final Class<IndexOutOfBoundsException> INDEX = IndexOutOfBoundsException.class;
    static final Class<IllegalArgumentException> ARGUMENT = IllegalArgumentException.class;
    static final Class<IllegalStateException> STATE = IllegalStateException.class;

    /** Small numbers, the rims of every range in the document, and what a byte, a short or a sign would make wrong. */
    static final int[] NUMBERS = {
        Integer.MIN_VALUE, Integer.MIN_VALUE + 1, -1000001, -1000000, -65536, -257, -256, -255, -128, -17, -16, -10, -9,
        -8, -7, -6, -5, -4, -3, -2, -1, 0, 1, 2, 3, 4, 5, 6, 7, 8, 9, 10, 11, 12, 15, 16, 17, 24, 25, 127, 128, 255,
        256, 257, 258, 65535, 65536, 65537, 999999, 1000000, 1000001, 16777217, Integer.MAX_VALUE - 1,
        Integer.MAX_VALUE,
    };

    interface OfNumber {
        long answer(MapSongs song, int number);
    }

    interface Maker {
        MapSongs make();
    }

    private Songs() {
    }

    /** A way of legs of length 1 past landmark 0, with these turns. */
    static MapSongs turning(int... turns) {
        MapSongs song = new MapSongs();
        for (int turn : turns) {
            song.addLeg(turn, 1, 0);
        }
        return song;
    }

    /** A way straight on past these landmarks. */
    static MapSongs past(int... landmarks) {
        MapSongs song = new MapSongs();
        for (int landmark : landmarks) {
            song.addLeg(0, 1, landmark);
        }
        return song;
    }

    /** A way straight on past so many times landmark 0. */
    static MapSongs flat(int legs) {
        return past(new int[legs]);
    }

    /** Landmarks first to last all get the word. */
    static void shareWord(MapSongs song, int first, int last, int word) {
        for (int landmark = first; landmark <= last; landmark++) {
            song.setWord(landmark, word);
        }
    }

    /** Five legs: the first ambiguous by its word, but mended, the third by word and turn, the fourth by its turn. */
    static MapSongs ordinary() {
        MapSongs song = new MapSongs();
        song.setStep(3);
        song.setWord(7, 1);
        song.addLeg(-2, 4, 1);
        song.addLeg(-2, 9, 3);
        song.addLeg(1, 1, 7);
        song.addLeg(3, 5, 0);
        song.addLeg(-3, 2, 9);
        song.mend(0);
        return song;
    }

    /** Sixteen legs of every turn, length and landmark; some of the ambiguous ones are mended. */
    static MapSongs full() {
        MapSongs song = new MapSongs();
        shareWord(song, 3, 5, 8);
        for (int leg = 0; leg < 16; leg++) {
            song.addLeg(leg * 5 % 7 - 3, leg % 9 + 1, leg % 10);
        }
        song.mend(3);
        song.mend(8);
        song.mend(13);
        return song;
    }

    /** Sixteen legs, all ambiguous: the first one has 10 readings, the others 20 each, and are folded. */
    static MapSongs mostAmbiguous() {
        MapSongs song = turning(2, 3, 3, 3, 3, 3, 3, 3, 3, 3, 3, 3, 3, 3, 3, 3);
        for (int leg = 2; leg < 16; leg += 2) {
            song.bend(leg, -3);
        }
        shareWord(song, 0, 9, 0);
        song.setStep(4);
        return song;
    }

    /** All that can be asked of a song, as a text, in some 300 calls. */
    static String answers(MapSongs s) {
        StringBuilder all = new StringBuilder();
        add(all, "whole", s.legs(), s.step(), s.endX(), s.endY(), s.stepsHome(), s.returns(), s.beats(), s.folded(),
            s.range(), s.ambiguous(), s.ways(), s.firstAmbiguous(), s.bestStep(), s.digest());
        all.append(' ').append(s.meanNote());
        for (int leg = 0; leg < s.legs(); leg++) {
            add(all, "leg", s.turnOf(leg), s.headingOf(leg), s.landmarkOf(leg), s.noteOf(leg), s.wordIn(leg),
                s.readings(leg), s.rightReading(leg));
            add(all, "is", one(s.isFolded(leg)), one(s.isAmbiguous(leg)), one(s.isMended(leg)));
        }
        for (int number = 0; number <= 9; number++) {
            add(all, "number", s.wordOf(number), s.bestWord(number), s.sungWith(number));
            for (int word = 0; word <= 9; word++) {
                add(all, "with", s.ambiguousWith(number, word));
            }
        }
        return all.toString();
    }

    /** What cannot be asked straight: the length of each leg, told by striking them all. */
    static String lengthsStruck(MapSongs song) {
        StringBuilder all = new StringBuilder();
        for (int leg = song.legs() - 1; leg >= 0; leg--) {
            int before = song.beats();
            song.strikeLeg();
            add(all, "length", before - song.beats());
        }
        return all.toString();
    }

    private static void add(StringBuilder text, String what, long... numbers) {
        text.append(' ').append(what);
        for (long number : numbers) {
            text.append(' ').append(number);
        }
    }

    static int one(boolean is) {
        return is ? 1 : 0;
    }

    /** Of all numbers the call takes just those from least to most, and refuses the others. */
    static void takes(String what, int least, int most, Class<? extends RuntimeException> refusal, Maker maker,
            OfNumber call) {
        for (int number : NUMBERS) {
            String name = what + " " + number;
            MapSongs song = maker.make();
            if (least <= number && number <= most) {
                String outcome = Check.outcome(() -> call.answer(song, number));
                Check.due(name + " is taken", true, outcome.startsWith("answers "));
            } else {
                Check.refused(name, refusal, song, () -> call.answer(song, number));
            }
        }
    }

    /** The call takes just the legs that there are: in an empty way, an ordinary one, a full one and one behind it. */
    static void takesLegs(String what, OfNumber call) {
        takes(what + " of an empty way", 0, -1, INDEX, MapSongs::new, call);
        takes(what + " of one leg", 0, 0, INDEX, () -> ambiguousFlat(1), call);
        takes(what + " of some legs", 0, 4, INDEX, () -> ambiguousFlat(5), call);
        takes(what + " of a full way", 0, 15, INDEX, () -> ambiguousFlat(16), call);
        takes(what + " of a full way less a leg", 0, 14, INDEX, Songs::struckOnce, call);
    }

    /** So many legs, all ambiguous. */
    static MapSongs ambiguousFlat(int legs) {
        MapSongs song = flat(legs);
        song.setWord(1, 0);
        return song;
    }

    private static MapSongs struckOnce() {
        MapSongs song = ambiguousFlat(16);
        song.strikeLeg();
        return song;
    }
}
