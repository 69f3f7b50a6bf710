/** A test for each sentence of the document's terms that names a boundary case; the words that are tested head each test. */
public final class BoundaryTermsTest {
    private static final int UNKNOWN = SungSlides.UNKNOWN;
    private static final int OUT_OF_RANGE = SungSlides.OUT_OF_RANGE;
    private static final int FULL = SungSlides.FULL;
    private static final int NONE = SungSlides.NONE;
    private static final int LEAST = Integer.MIN_VALUE;
    private static final int MOST = Integer.MAX_VALUE;

    public static void main(String[] args) {
        theSong();
        singing();
        points();
        settings();
        texts();
        history();
        errors();
        Check.end();
    }

    // ---- the song

    private static void theSong() {
        mostSyllables();
        rangesOfSyllables();
        ticksOfSyllables();
        beginningByRest();
        lastTick();
        firstOfPhrases();
        endsOfPhrases();
        slides();
        lengthOne();
        barLines();
        held();
    }

    private static void mostSyllables() {
        Check.words("A song has at most 40 syllables, numbered from 0, one behind the other.");
        SungSlides x = new SungSlides();
        for (int i = 0; i < 40; i++) {
            Check.due("add " + i, x.add(0, 20, 20, 1, false), i);
        }
        Check.due("the 41st", x.add(0, 20, 20, 1, false), FULL);
        Check.due("syllables", x.total(5), 40);
        Check.due("the number -1", x.syllable(-1, 0), UNKNOWN);
        Check.due("the number 0", x.syllable(0, 0), 0);
        Check.due("the number 39", x.syllable(39, 0), 39);
        Check.due("the number 40", x.syllable(40, 0), UNKNOWN);
        x.drop();
        Check.due("room again", x.add(5, 20, 20, 1, false), 44);
        Check.due("full again", x.add(0, 20, 20, 1, false), FULL);
        Check.due("all can be sung", x.singAlong(0, 39, 0), 4);
        Check.due("the last one is hit", x.syllable(39, 9), 0);
    }

    private static void rangesOfSyllables() {
        Check.words("A syllable begins at a tick, and has a length of 1 to 32 ticks, a pitch and an end pitch, each from 0 to 60;");
        SungSlides x = new SungSlides();
        Check.due("the least of all", x.add(0, 0, 0, 1, true), 0);
        Check.due("the most of all", x.add(32, 60, 60, 32, true), 33);
        int[][] due = {{0, 1, 0, 0}, {33, 32, 60, 60}};
        for (int i = 0; i < 2; i++) {
            for (int what = 0; what < 4; what++) {
                Check.due("syllable(" + i + ", " + what + ")", x.syllable(i, what), due[i][what]);
            }
        }
    }

    private static void ticksOfSyllables() {
        Check.words("its ticks are those from its beginning on, as many as it is long.");
        SungSlides x = new SungSlides();
        x.add(3, 0, 0, 1, true);
        x.add(3, 60, 60, 32, true);
        int[][] due = {{2, NONE}, {3, 0}, {4, NONE}, {6, NONE}, {7, 60}, {38, 60}, {39, NONE}};
        for (int[] d : due) {
            Check.due("wanted at " + d[0], x.wanted(d[0]), d[1]);
        }
    }

    private static void beginningByRest() {
        Check.words("The first syllable begins as many ticks behind the tick 0, each other one as many behind the last tick of the one "
            + "ahead of it and 1, as its rest tells (0 to 32).");
        SungSlides x = new SungSlides();
        Check.due("the first without a rest", x.add(0, 20, 20, 1, true), 0);
        Check.due("another without a rest", x.add(0, 20, 20, 32, true), 1);
        Check.due("behind the longest", x.add(0, 20, 20, 1, true), 33);
        Check.due("with the longest rest", x.add(32, 20, 20, 1, true), 66);
        SungSlides y = new SungSlides();
        Check.due("the first with the longest rest", y.add(32, 20, 20, 1, true), 32);
        y.drop();
        Check.due("the first one again", y.add(1, 20, 20, 1, true), 1);
    }

    private static void lastTick() {
        Check.words("The last tick of a song is at most 599.");
        SungSlides x = Songs.upTo575();
        Check.due("the tick 599, a long one", x.add(0, 20, 20, 24, false), 576);
        Check.due("it is the last", x.total(7), 600);
        Check.due("it is wanted there", x.wanted(599), 20);
        x.drop();
        Check.due("the tick 600, a long one", x.add(0, 20, 20, 25, false), FULL);
        Check.due("the tick 599, a short one", x.add(23, 20, 20, 1, false), 599);
        x.drop();
        Check.due("the tick 600, a short one", x.add(24, 20, 20, 1, false), FULL);
        Check.due("the longest of all", x.add(32, 20, 20, 32, false), FULL);
        Check.due("nothing was added", x.total(7), 576);
    }

    private static void firstOfPhrases() {
        Check.words("Some syllables begin a phrase, the first one always does;");
        SungSlides x = new SungSlides();
        x.add(0, 20, 20, 1, false);
        Check.due("the first one", x.syllable(0, 4), 0);
        Check.due("one phrase", x.total(6), 1);
        x.drop();
        Check.due("no phrase is left", x.total(6), 0);
        x.add(0, 20, 20, 1, false);
        Check.due("the first one again", x.syllable(0, 4), 0);
        x.drop();
        x.add(0, 20, 20, 1, true);
        Check.due("it is the phrase 0 too if it is asked for", x.syllable(0, 4), 0);
        SungSlides y = new SungSlides();
        for (int i = 0; i < 40; i++) {
            y.add(0, 20, 20, 1, true);
        }
        Check.due("each one can", y.total(6), 40);
        Check.due("the last phrase", y.phrase(39, 0), 39);
        Check.due("its size", y.phrase(39, 1), 1);
        Check.due("none behind it", y.phrase(40, 0), UNKNOWN);
        y.sing(39, 1, 20);
        for (int i = 0; i < 2; i++) {
            Check.due("the points of the last phrase", y.phrase(39, 3), 100);
            Check.due("its hits", y.phrase(39, 2), 1);
        }
        y.silence(39, 1);
        int[] due = {39, 1, 0, 0, 0};
        for (int what = 0; what < 5; what++) {
            Check.due("phrase(39, " + what + ") in silence", y.phrase(39, what), due[what]);
        }
    }

    private static void endsOfPhrases() {
        Check.words("a phrase goes up to the next syllable that begins one.");
        SungSlides x = Songs.ofTicks(40);
        Check.due("all in one", x.total(6), 1);
        Check.due("as many", x.phrase(0, 1), 40);
        SungSlides y = Songs.made("20:1,20:1,20:1/20:1/20:1,20:1");
        int[][] due = {{0, 3}, {3, 1}, {4, 2}};
        for (int p = 0; p < 3; p++) {
            Check.due("first of " + p, y.phrase(p, 0), due[p][0]);
            Check.due("size of " + p, y.phrase(p, 1), due[p][1]);
        }
        Check.due("the syllable ahead of the next phrase", y.syllable(2, 4), 0);
        Check.due("the syllable at it", y.syllable(3, 4), 1);
        y.drop();
        y.drop();
        Check.due("a phrase goes with its last syllable", y.phrase(2, 0), UNKNOWN);
    }

    private static void slides() {
        Check.words("its pitch + (its end pitch - its pitch) * j / (n - 1) (the quotient rounded toward 0)");
        wantedIs("4-5:3", new int[] {4, 4, 5});
        wantedIs("5-4:3", new int[] {5, 5, 4});
        wantedIs("0-60:2", new int[] {0, 60});
        wantedIs("60-0:2", new int[] {60, 0});
        wantedIs("0-3:5", new int[] {0, 0, 1, 2, 3});
        wantedIs("3-0:5", new int[] {3, 3, 2, 1, 0});
        wantedIs("7-7:3", new int[] {7, 7, 7});
        SungSlides x = Songs.made("0-60:32,60-0:32");
        int[][] due = {{1, 1}, {15, 29}, {16, 30}, {30, 58}, {31, 60}, {32, 60}, {33, 59}, {47, 31}, {48, 30}, {62, 2}, {63, 0}};
        for (int[] d : due) {
            Check.due("wanted at " + d[0], x.wanted(d[0]), d[1]);
        }
    }

    private static void wantedIs(String text, int[] pitches) {
        SungSlides x = Songs.made(text);
        for (int j = 0; j < pitches.length; j++) {
            Check.due(text + " at " + j, x.wanted(j), pitches[j]);
        }
        Check.due(text + " behind it", x.wanted(pitches.length), NONE);
    }

    private static void lengthOne() {
        Check.words("or its pitch if n is 1.");
        wantedIs("0-60:1", new int[] {0});
        wantedIs("60-0:1", new int[] {60});
        SungSlides x = Songs.made("10-20:1");
        Check.due("it is sung so", x.singAlong(0, 0, 0) * 100 + x.sung(0), 110);
        Check.due("its end pitch is kept", x.syllable(0, 3), 20);
        x.sing(0, 1, 20);
        Check.due("its end pitch does not match", x.syllable(0, 6), 0);
    }

    private static void barLines() {
        Check.words("A bar line is at each tick that is a multiple of BAR, above 0.");
        SungSlides x = Songs.made("20:3,20:30,20:32");
        x.set(0, 2);
        Check.due("BAR 2, none at 0, one at 2", x.syllable(0, 5), 1);
        Check.due("BAR 2, 3 to 32", x.syllable(1, 5), 15);
        x.set(0, 64);
        Check.due("BAR 64, 33 to 64", x.syllable(2, 5), 1);
        x.drop();
        x.add(0, 20, 20, 31, false);
        Check.due("BAR 64, 33 to 63", x.syllable(2, 5), 0);
        SungSlides y = Songs.upTo575();
        y.add(22, 20, 20, 2, false);
        y.set(0, 2);
        Check.due("598 alone of 598 and 599", y.syllable(9, 5), 0);
        y.drop();
        y.add(21, 20, 20, 3, false);
        Check.due("the last line, at 598", y.syllable(9, 5), 1);
    }

    private static void held() {
        Check.words("A syllable is held over a bar line if it has the tick of this line, and the tick ahead of it.");
        SungSlides x = new SungSlides();
        x.add(14, 20, 20, 2, true);
        Check.due("it ends ahead of the line", x.syllable(0, 5), 0);
        x.add(0, 20, 20, 1, true);
        Check.due("it has the line alone", x.syllable(1, 5), 0);
        x.drop();
        x.add(0, 20, 20, 16, true);
        Check.due("from one line up to the next", x.syllable(1, 5), 0);
        x.drop();
        x.add(0, 20, 20, 17, true);
        Check.due("from one line to the next", x.syllable(1, 5), 1);
        x.drop();
        x.drop();
        x.add(15, 20, 20, 2, true);
        Check.due("the tick ahead of the line, and the line", x.syllable(0, 5), 1);
    }

    // ---- singing

    private static void singing() {
        sungAtFirst();
        tolerance();
        silenceNeverMatches();
        inOctaves();
        onsets();
        onsetAtZero();
        window();
        windowAtTheEnds();
        ofTwoTheEarlier();
        sameOnset();
        shares();
        hit();
        missed();
        missedOrder();
    }

    private static void sungAtFirst() {
        Check.words("At each tick from 0 to 599 the singer sings a pitch from 0 to 60, or nothing (at first).");
        SungSlides x = new SungSlides();
        Check.due("nothing at 0", x.sung(0), NONE);
        Check.due("nothing at 599", x.sung(599), NONE);
        Check.due("at no tick", x.total(8), 0);
        for (int tick = 0; tick < 600; tick += 50) {
            x.sing(tick, 50, tick / 10);
        }
        Check.due("at each tick", x.total(8), 600);
        Check.due("the pitch 0 is not nothing", x.sung(0), 0);
        Check.due("the tick 599", x.sung(599), 55);
    }

    private static void tolerance() {
        Check.words("A tick of a syllable matches if something is sung at it, and the sung pitch is unlike the wanted one by TOLERANCE at most;");
        SungSlides x = Songs.made("30:1");
        for (int tolerance = 0; tolerance <= 6; tolerance++) {
            x.set(1, tolerance);
            matchesAt(x, 30 - tolerance - 1, 0);
            matchesAt(x, 30 - tolerance, 1);
            matchesAt(x, 30, 1);
            matchesAt(x, 30 + tolerance, 1);
            matchesAt(x, 30 + tolerance + 1, 0);
        }
        matchesAt(x, 18, 0);
        matchesAt(x, 42, 0);
        SungSlides low = Songs.made("0:1");
        matchesAt(low, 0, 1);
        matchesAt(low, 1, 1);
        matchesAt(low, 2, 0);
        matchesAt(low, 60, 0);
        SungSlides high = Songs.made("60:1");
        matchesAt(high, 60, 1);
        matchesAt(high, 59, 1);
        matchesAt(high, 58, 0);
        matchesAt(high, 0, 0);
    }

    private static void matchesAt(SungSlides x, int pitch, int due) {
        x.sing(0, 1, pitch);
        String call = "matches of the pitch " + pitch + " with the tolerance " + x.total(1) + " and octaves " + x.total(3);
        Check.due(call, x.syllable(0, 6), due);
    }

    private static void silenceNeverMatches() {
        Check.words("matches if something is sung at it");
        for (int octaves = 0; octaves < 2; octaves++) {
            SungSlides x = Songs.made("0:1,5:1,11:1,12:1");
            x.set(1, 6);
            x.set(3, octaves);
            x.sing(4, 1, 0);
            for (int i = 0; i < 4; i++) {
                Check.due("silence at the syllable " + i, x.syllable(i, 6), 0);
            }
            Check.due("nothing is hit", x.total(10), 0);
        }
    }

    private static void inOctaves() {
        Check.words("with the setting 3 as 1 by TOLERANCE and any number of octaves (12 each), at most.");
        int[] wantedPitches = {0, 30, 60};
        for (int wanted : wantedPitches) {
            SungSlides x = Songs.made(wanted + ":1");
            x.set(3, 1);
            for (int tolerance = 0; tolerance <= 6; tolerance++) {
                x.set(1, tolerance);
                for (int pitch = 0; pitch <= 60; pitch++) {
                    matchesAt(x, pitch, isNearOctave(Math.abs(pitch - wanted), tolerance) ? 1 : 0);
                }
            }
        }
    }

    private static boolean isNearOctave(int apart, int tolerance) {
        for (int octaves = 0; octaves <= 60; octaves += 12) {
            if (apart >= octaves - tolerance && apart <= octaves + tolerance) {
                return true;
            }
        }
        return false;
    }

    private static void onsets() {
        Check.words("An onset is a tick at which something is sung, and nothing, or a pitch that is another one, at the tick ahead of it");
        SungSlides x = new SungSlides();
        Check.due("none without singing", x.total(9), 0);
        x.sing(10, 5, 20);
        Check.due("behind nothing", x.total(9), 1);
        x.sing(15, 5, 20);
        Check.due("the same pitch goes on", x.total(9), 1);
        x.sing(15, 5, 21);
        Check.due("another pitch", x.total(9), 2);
        x.sing(20, 5, 0);
        Check.due("the pitch 0", x.total(9), 3);
        x.sing(30, 5, 0);
        Check.due("the same pitch behind nothing", x.total(9), 4);
        x.silence(17, 1);
        Check.due("a gap of one tick", x.total(9), 5);
        x.sing(599, 1, 0);
        Check.due("the tick 599", x.total(9), 6);
        x.sing(598, 1, 0);
        Check.due("the tick 598 in its place", x.total(9), 6);
    }

    private static void onsetAtZero() {
        Check.words("(nothing is sung ahead of the tick 0)");
        SungSlides x = Songs.made("20:1");
        x.sing(0, 2, 20);
        Check.due("an onset", x.total(9), 1);
        Check.due("of the syllable", x.syllable(0, 8), 0);
        x.sing(0, 2, 0);
        Check.due("the pitch 0 too", x.syllable(0, 8), 0);
        x.silence(0, 1);
        Check.due("the tick 1 then", x.syllable(0, 8), 1);
    }

    private static void window() {
        Check.words("The onset of a syllable is, of the onsets that are not farther than WINDOW from its beginning, the nearest one");
        SungSlides x = Songs.made(".3220:10");
        for (int window = 0; window <= 8; window++) {
            x.set(2, window);
            onsetIs(x, 32 - window - 1, NONE);
            onsetIs(x, 32 - window, 32 - window);
            onsetIs(x, 32 + window, 32 + window);
            onsetIs(x, 32 + window + 1, NONE);
        }
        Check.words("it may have none.");
        x.silence(0, 600);
        Check.due("nothing is sung", x.syllable(0, 8), NONE);
        x.sing(20, 22, 20);
        Check.due("sung all through, begun long before", x.syllable(0, 8), NONE);
    }

    private static void onsetIs(SungSlides x, int tick, int due) {
        x.silence(0, 600);
        x.sing(tick, 1, 20);
        Check.due("onset at " + tick + ", window " + x.total(2), x.syllable(0, 8), due);
    }

    private static void windowAtTheEnds() {
        Check.words("of the onsets that are not farther than WINDOW from its beginning");
        SungSlides x = Songs.made("20:2");
        x.set(2, 8);
        Check.due("nothing near the tick 0", x.syllable(0, 8), NONE);
        x.sing(9, 1, 20);
        Check.due("too far behind the tick 0", x.syllable(0, 8), NONE);
        x.sing(8, 1, 20);
        Check.due("at the edge behind the tick 0", x.syllable(0, 8), 8);
        SungSlides y = Songs.upTo599();
        y.set(2, 8);
        Check.due("nothing near the tick 599", y.syllable(9, 8), NONE);
        y.sing(590, 1, 20);
        Check.due("too far ahead of the tick 599", y.syllable(9, 8), NONE);
        y.sing(591, 1, 21);
        Check.due("at the edge ahead of the tick 599", y.syllable(9, 8), 591);
        y.sing(599, 1, 20);
        Check.due("at the tick 599", y.syllable(9, 8), 599);
    }

    private static void ofTwoTheEarlier() {
        Check.words("the nearest one, of two the earlier one;");
        SungSlides x = Songs.made(".1020:10");
        x.set(2, 8);
        x.sing(18, 1, 20);
        Check.due("8 behind", x.syllable(0, 8), 18);
        x.sing(2, 1, 20);
        Check.due("8 ahead too", x.syllable(0, 8), 2);
        x.sing(16, 1, 20);
        Check.due("6 behind", x.syllable(0, 8), 16);
        x.sing(4, 1, 20);
        Check.due("6 ahead too", x.syllable(0, 8), 4);
        x.sing(11, 1, 20);
        Check.due("1 behind", x.syllable(0, 8), 11);
        x.sing(9, 1, 20);
        Check.due("1 ahead too", x.syllable(0, 8), 9);
        x.sing(10, 1, 21);
        Check.due("at the beginning", x.syllable(0, 8), 10);
    }

    private static void sameOnset() {
        Check.words("(Two syllables may have the same onset.)");
        SungSlides x = Songs.made("20:1,20:1,20:1,20:1");
        x.sing(0, 4, 20);
        int[] due = {0, 0, 0, NONE};
        for (int i = 0; i < 4; i++) {
            Check.due("onset of " + i, x.syllable(i, 8), due[i]);
        }
        Check.due("hits", x.total(10), 3);
    }

    private static void shares() {
        Check.words("The share of a syllable is the number of its ticks that match, times 100, divided by its length (rounded down).");
        shareIs(1, 0, 0);
        shareIs(1, 1, 100);
        shareIs(3, 1, 33);
        shareIs(3, 2, 66);
        shareIs(7, 6, 85);
        shareIs(32, 0, 0);
        shareIs(32, 1, 3);
        shareIs(32, 31, 96);
        shareIs(32, 32, 100);
    }

    private static void shareIs(int length, int matching, int due) {
        SungSlides x = Songs.made("20:" + length);
        x.sing(0, length, 60);
        for (int i = 0; i < matching; i++) {
            x.sing(length - 1 - i, 1, 20);
        }
        Check.due("share of " + matching + " of " + length, x.syllable(0, 7), due);
        Check.due("matches of " + matching + " of " + length, x.syllable(0, 6), matching);
    }

    private static void hit() {
        Check.words("It is hit if it has an onset and its share is SHARE or more;");
        SungSlides x = Songs.made("20:3");
        x.sing(0, 1, 20);
        x.set(4, 34);
        Check.due("share 33 of 34", x.syllable(0, 9), 4);
        x.set(4, 33);
        Check.due("share 33 of 33", x.syllable(0, 9), 0);
        x.set(4, 1);
        Check.due("share 33 of 1", x.syllable(0, 9), 0);
        x.set(4, 100);
        x.sing(0, 3, 20);
        Check.due("share 100 of 100", x.syllable(0, 9), 0);
        x.sing(2, 1, 60);
        Check.due("share 66 of 100", x.syllable(0, 9), 4);
        SungSlides y = Songs.made("20:32");
        y.set(4, 1);
        y.sing(0, 32, 60);
        Check.due("share 0 of 1", y.total(10), 0);
        y.sing(31, 1, 20);
        Check.due("share 3 of 1", y.total(10), 1);
        SungSlides z = Songs.made(".1020:4");
        z.sing(7, 7, 20);
        Check.due("share 100 without an onset", z.total(10), 0);
    }

    private static void missed() {
        Check.words("1 nothing is sung at any of its ticks; 2 none of its ticks matches; 3 it has no onset; 4 its share is less than SHARE.");
        SungSlides x = Songs.made(".1020:10");
        missedFor(x, "silence", 1);
        x.sing(9, 1, 20);
        missedFor(x, "the tick ahead alone", 1);
        x.silence(0, 600);
        x.sing(20, 1, 20);
        missedFor(x, "the tick behind alone", 1);
        x.sing(10, 1, 22);
        missedFor(x, "the first tick, too high", 2);
        x.silence(0, 600);
        x.sing(19, 1, 18);
        missedFor(x, "the last tick, too low", 2);
        x.sing(19, 1, 19);
        missedFor(x, "the last tick", 3);
        x.sing(7, 13, 20);
        missedFor(x, "all ticks, begun too early", 3);
        x.silence(7, 6);
        missedFor(x, "7 ticks, begun too late", 3);
        x.silence(0, 600);
        x.sing(12, 4, 20);
        missedFor(x, "share 40", 4);
        x.sing(16, 1, 20);
        missedFor(x, "share 50", 0);
    }

    private static void missedFor(SungSlides x, String sung, int why) {
        Check.due(sung, x.syllable(0, 9), why);
    }

    private static void missedOrder() {
        Check.words("otherwise it is missed, for the first of these reasons that applies:");
        SungSlides x = Songs.made(".1020:10");
        missedFor(x, "1, with 2, 3 and 4", 1);
        x.sing(8, 1, 20);
        missedFor(x, "1, with 2 and 4, though it has an onset", 1);
        x.silence(0, 600);
        x.sing(15, 1, 30);
        missedFor(x, "2, with 3 and 4", 2);
        x.sing(10, 1, 30);
        missedFor(x, "2, with 4", 2);
        x.silence(0, 600);
        x.sing(15, 1, 20);
        missedFor(x, "3, with 4", 3);
    }

    // ---- points

    private static void points() {
        heldAndMatching();
        offTheBeginning();
        atLeastZero();
        roundedDown();
        atMostTen();
        withoutBreak();
        inTheSamePhrase();
        missedBringsNothing();
        fiftyMore();
    }

    private static void heldAndMatching() {
        Check.words("and 5 more for each bar line over which it is held, if the tick of the line and the tick ahead of it both match");
        SungSlides x = Songs.made(".1420:4");
        x.singAlong(0, 0, 0);
        Check.due("held", x.syllable(0, 10), 105);
        int[] due = {80, 75, 75, 80};
        for (int i = 0; i < 4; i++) {
            x.sing(14 + i, 1, 22);
            Check.due("the tick " + (14 + i) + " does not match", x.syllable(0, 10), due[i]);
            Check.due("the line counts all the same", x.syllable(0, 5), 1);
            x.undo();
        }
        SungSlides y = Songs.made("20:32");
        y.set(0, 2);
        y.singAlong(0, 0, 0);
        Check.due("lines at 2 to 30", y.syllable(0, 10), 175);
        SungSlides z = Songs.made(".1620:16");
        z.singAlong(0, 0, 0);
        Check.due("from one line up to the next, with the lines' own ticks", z.syllable(0, 10), 100);
        z.sing(15, 18, 20);
        Check.due("sung over both lines", z.syllable(0, 10), 98);
    }

    private static void offTheBeginning() {
        Check.words("less 2 for each tick by which its onset is off its beginning");
        SungSlides x = Songs.made(".1020:10");
        x.set(0, 64);
        x.set(2, 8);
        x.set(4, 1);
        for (int off = 0; off <= 8; off++) {
            x.silence(0, 600);
            x.sing(10 - off, 10 + off, 20);
            Check.due("too early by " + off, x.syllable(0, 10), 100 - 2 * off);
            x.silence(0, 10 + off);
            Check.due("too late by " + off, x.syllable(0, 10), 100 - 10 * off - 2 * off);
        }
    }

    private static void atLeastZero() {
        Check.words("(together at least 0)");
        SungSlides x = Songs.made("20:1,.920:32");
        x.set(0, 64);
        x.set(2, 8);
        x.set(4, 1);
        x.sing(0, 1, 20);
        // the share is 3, and one syllable ahead is hit: 3, 1, and below 0 from then on, times 11 / 10
        int[] due = {3, 1, 0, 0, 0, 0, 0, 0, 0};
        for (int off = 0; off <= 8; off++) {
            x.sing(10 + off, 1, 20);
            Check.due("share 3, off by " + off, x.syllable(1, 10), due[off]);
            Check.due("it is hit, off by " + off, x.syllable(1, 9), 0);
            Check.due("the phrase, off by " + off, x.phrase(0, 3), 100 + due[off] + 50);
            x.undo();
        }
        SungSlides y = Songs.made("20:25");
        y.set(4, 1);
        y.sing(2, 1, 20);
        Check.due("share 4, off by 2", y.syllable(0, 10), 0);
    }

    private static void roundedDown() {
        Check.words("and this times (10 plus R) / 10 (rounded down)");
        SungSlides x = Songs.made("20:1,25:3,20:3,25:3,20:3");
        x.set(4, 1);
        x.sing(0, 1, 20);
        x.sing(1, 2, 25);
        x.sing(4, 2, 20);
        x.sing(7, 1, 25);
        x.sing(10, 1, 20);
        // 66 * 11 / 10, 66 * 12 / 10, 33 * 13 / 10, 33 * 14 / 10
        int[] due = {100, 72, 79, 42, 46};
        for (int i = 0; i < 5; i++) {
            Check.due("points of " + i, x.syllable(i, 10), due[i]);
        }
        Check.due("each one is rounded by itself", x.total(11), 339 + 50);
    }

    private static void atMostTen() {
        Check.words("but at most 10.");
        SungSlides x = Songs.made("20:1,30:1,20:1,30:1,20:1,30:1,20:1,30:1,20:1,30:1,20:1,30:1");
        Check.due("all are hit", x.singAlong(0, 11, 0), 12);
        int[] row = {0, 1, 2, 3, 4, 5, 6, 7, 8, 9, 10, 10};
        for (int i = 0; i < 12; i++) {
            Check.due("row ahead of " + i, x.syllable(i, 11), row[i]);
            Check.due("points of " + i, x.syllable(i, 10), 100 + 10 * row[i]);
        }
        Check.due("all", x.total(11), 1900);
        Check.due("the most", x.total(12), 1900);
    }

    private static void withoutBreak() {
        Check.words("with R being how many syllables ahead of it, without a break");
        SungSlides x = Songs.made("20:1,30:1,20:1,30:1,20:1");
        x.singAlong(0, 4, 0);
        x.sing(2, 1, 40);
        int[] row = {0, 1, 2, 0, 1};
        for (int i = 0; i < 5; i++) {
            Check.due("row ahead of " + i, x.syllable(i, 11), row[i]);
        }
        Check.due("points behind the break", x.syllable(3, 10), 100);
        Check.due("points of the next one", x.syllable(4, 10), 110);
        x.sing(0, 1, 40);
        Check.due("a break at the first one", x.syllable(1, 11), 0);
    }

    private static void inTheSamePhrase() {
        Check.words("and in the same phrase, were hit");
        SungSlides x = Songs.made("20:1,30:1/20:1,30:1");
        x.singAlong(0, 3, 0);
        int[] row = {0, 1, 0, 1};
        int[] points = {100, 110, 100, 110};
        for (int i = 0; i < 4; i++) {
            Check.due("row ahead of " + i, x.syllable(i, 11), row[i]);
            Check.due("points of " + i, x.syllable(i, 10), points[i]);
        }
    }

    private static void missedBringsNothing() {
        Check.words("A syllable that is missed brings nothing.");
        SungSlides x = Songs.made("20:32");
        x.set(4, 100);
        x.sing(0, 31, 20);
        Check.due("share 96 of 100, and a line", x.syllable(0, 10), 0);
        Check.due("the phrase", x.phrase(0, 3), 0);
        x.sing(31, 1, 20);
        Check.due("hit", x.syllable(0, 10), 105);
        SungSlides y = Songs.made(".1020:4");
        y.sing(7, 7, 20);
        Check.due("no onset", y.total(11), 0);
    }

    private static void fiftyMore() {
        Check.words("A phrase brings what its syllables bring, and 50 more if all of them are hit, and there are 2 or more.");
        SungSlides x = Songs.made("10:1/20:1,30:1/20:1,30:1,20:1");
        x.singAlong(0, 5, 0);
        int[] due = {100, 260, 380};
        for (int p = 0; p < 3; p++) {
            Check.due("the phrase " + p, x.phrase(p, 3), due[p]);
        }
        x.sing(0, 1, 40);
        x.sing(2, 1, 40);
        x.sing(3, 1, 40);
        int[] less = {0, 100, 210};
        for (int p = 0; p < 3; p++) {
            Check.due("one is missed in the phrase " + p, x.phrase(p, 3), less[p]);
        }
        x.silence(0, 600);
        Check.due("all are missed", x.phrase(1, 3) + x.phrase(2, 3), 0);
    }

    // ---- settings

    private static void settings() {
        Check.words("(Range; first value.) 0 BAR (2 to 64; 16), 1 TOLERANCE (0 to 6; 1), 2 WINDOW (0 to 8; 2), 3 octaves (0 or 1; 0), "
            + "4 SHARE (1 to 100; 50).");
        int[][] ranges = {{2, 64, 16}, {0, 6, 1}, {0, 8, 2}, {0, 1, 0}, {1, 100, 50}};
        for (int i = 0; i < 5; i++) {
            SungSlides x = Songs.made("20:2");
            Check.due("first value of " + i, x.total(i), ranges[i][2]);
            for (int value = -2; value <= 130; value++) {
                boolean isIn = value >= ranges[i][0] && value <= ranges[i][1];
                int before = x.total(i);
                int due = !isIn ? OUT_OF_RANGE : value == before ? NONE : before;
                Check.due("set(" + i + ", " + value + ")", x.set(i, value), due);
                Check.due("the setting " + i, x.total(i), isIn ? value : before);
            }
        }
    }

    // ---- texts

    private static void texts() {
        textLength();
        between();
        rests();
        restDigits();
        pitches();
        endPitches();
        lengths();
        zerosAhead();
        tooGreat();
        faultPlaces();
        endsTooEarly();
    }

    /** A text with a fault leaves the song as it was. */
    private static void faultAt(String text, int place) {
        SungSlides x = Songs.ofTicks(2);
        Songs.write(x, text);
        Check.due("read of \"" + text + "\"", x.read(), -100 - place);
        Check.due("the song then", x.total(5) * 10 + x.total(13), 22);
        Check.due("the text then", x.total(14), text.length());
    }

    private static void songOf(String text, int rest, int pitch, int endPitch, int length) {
        SungSlides x = Songs.typed(text);
        Check.due("read of \"" + text + "\"", x.read(), 1);
        int[] due = {rest, length, pitch, endPitch};
        for (int what = 0; what < 4; what++) {
            Check.due("syllable(0, " + what + ") of \"" + text + "\"", x.syllable(0, what), due[what]);
        }
    }

    private static void textLength() {
        Check.words("There is a text of at most 60 characters, empty at first.");
        SungSlides x = new SungSlides();
        Check.due("empty", x.total(14), 0);
        for (int i = 1; i <= 60; i++) {
            Check.due("type", x.type(i % 4 == 0 ? ',' : i % 4 == 2 ? ':' : '1'), i);
        }
        Check.due("the 61st", x.type('1'), FULL);
        Check.due("the length", x.total(14), 60);
        Check.due("it ends with a comma", x.read(), -160);
        x.clearText();
        Check.due("empty again", x.total(14), 0);
        Check.due("nothing of it is left", x.read(), -100);
    }

    private static void between() {
        Check.words("A song is a list of one or more syllables with \",\" (the same phrase goes on) or \"/\" (a phrase begins) between two.");
        SungSlides x = Songs.typed("1:1,1:1/1:1");
        Check.due("three", x.read(), 3);
        Check.due("the same phrase", x.syllable(1, 4), 0);
        Check.due("another", x.syllable(2, 4), 1);
        SungSlides one = Songs.typed("1:1");
        Check.due("one", one.read(), 1);
        Check.due("it begins a phrase", one.total(6), 1);
        faultAt("", 0);
        faultAt(",1:1", 0);
        faultAt("/1:1", 0);
        faultAt("1:1,", 4);
        faultAt("1:1/", 4);
        faultAt("1:1,/1:1", 4);
        faultAt("1:1//1:1", 4);
        faultAt("1:1;1:1", 3);
    }

    private static void rests() {
        Check.words("A syllable is a rest, \".\" and a number from 1 to 32 (without it there is no rest;");
        songOf("5:1", 0, 5, 5, 1);
        songOf(".33:1", 3, 3, 3, 1);
        songOf(".95:1", 9, 5, 5, 1);
        songOf(".100:1", 10, 0, 0, 1);
        songOf(".320:1", 32, 0, 0, 1);
        songOf(".3260-0:32", 32, 60, 0, 32);
        faultAt(".0:1", 1);
        faultAt(".:1", 1);
        faultAt("..15:1", 1);
        faultAt(".-1", 1);
        faultAt(".3", 2);
    }

    private static void restDigits() {
        Check.words("the rest takes each digit with which it is 32 at most, the next digit begins the pitch: \".210:8\" is the rest 21 "
            + "and the pitch 0, \".44:4\" the rest 4 and the pitch 4)");
        songOf(".210:8", 21, 0, 0, 8);
        songOf(".44:4", 4, 4, 4, 4);
        songOf(".331:2", 3, 31, 31, 2);
        songOf(".3232:2", 32, 32, 32, 2);
        songOf(".290:1", 29, 0, 0, 1);
        songOf(".305:1", 30, 5, 5, 1);
        songOf(".3160:1", 31, 60, 60, 1);
        faultAt(".10:1", 3);
        faultAt(".15:3", 3);
        faultAt(".32:1", 3);
        faultAt(".3-4:1", 2);
        faultAt(".3360:1", 4);
        faultAt(".3261:1", 4);
    }

    private static void pitches() {
        Check.words("a pitch from 0 to 60");
        songOf("0:1", 0, 0, 0, 1);
        songOf("9:1", 0, 9, 9, 1);
        songOf("10:1", 0, 10, 10, 1);
        songOf("59:1", 0, 59, 59, 1);
        songOf("60:1", 0, 60, 60, 1);
        faultAt("61:1", 1);
        faultAt("70:1", 1);
        faultAt("600:1", 2);
        faultAt("-1:1", 0);
        faultAt(":1", 0);
    }

    private static void endPitches() {
        Check.words("perhaps \"-\" and an end pitch from 0 to 60 (without it it is the pitch)");
        songOf("7:2", 0, 7, 7, 2);
        songOf("7-0:2", 0, 7, 0, 2);
        songOf("0-60:2", 0, 0, 60, 2);
        songOf("60-60:1", 0, 60, 60, 1);
        faultAt("7-61:2", 3);
        faultAt("7-70:2", 3);
        faultAt("7-600:2", 4);
        faultAt("7-:2", 2);
        faultAt("7--1:2", 2);
        faultAt("7-8-9:2", 3);
        faultAt("7-.58:2", 2);
    }

    private static void lengths() {
        Check.words("\":\" and a length from 1 to 32.");
        songOf("5:1", 0, 5, 5, 1);
        songOf("5:9", 0, 5, 5, 9);
        songOf("5:10", 0, 5, 5, 10);
        songOf("5:32", 0, 5, 5, 32);
        faultAt("5:0", 2);
        faultAt("5:33", 3);
        faultAt("5:40", 3);
        faultAt("5:320", 4);
        faultAt("5:,5:1", 2);
        faultAt("5,5:1", 1);
        faultAt("5::1", 2);
    }

    private static void zerosAhead() {
        Check.words("Numbers have no zeros ahead of other digits;");
        faultAt("00:1", 1);
        faultAt("05:1", 1);
        faultAt("5-05:1", 3);
        faultAt("5-00:1", 3);
        faultAt("5:01", 2);
        faultAt(".01:1", 1);
        faultAt(".3005:1", 4);
        songOf("0-0:10", 0, 0, 0, 10);
        songOf(".300-20:30", 30, 0, 20, 30);
    }

    private static void tooGreat() {
        Check.words("a digit by which a number would be too great is not allowed.");
        faultAt("99:1", 1);
        faultAt("320:1", 2);
        faultAt("5-99:1", 3);
        faultAt("5:99", 3);
        faultAt("5:1,61:1", 5);
        faultAt("5:1,5:1/5-61:1", 11);
        faultAt("111111111111:1", 2);
        faultAt("5:111111111111", 4);
        faultAt(".322222222222:1", 5);
    }

    private static void faultPlaces() {
        Check.words("The fault of the text is the index, from 0, of the first character that is not allowed at its place");
        faultAt("x", 0);
        faultAt("1x", 1);
        faultAt("1:x", 2);
        faultAt("1:1x", 3);
        faultAt("1:1,x", 4);
        faultAt("1:x,x", 2);
        faultAt("1:1,1:1/1:1 ", 11);
        faultAt(" 1:1", 0);
        faultAt("\u0000", 0);
        faultAt("\uffff", 0);
        faultAt("\u0661:1", 0);
        faultAt("1\u0130:1", 1);
        faultAt("1:\u0131", 2);
        faultAt("1\u013a1", 1);
        faultAt("/", 0);
        faultAt("1:1:1", 3);
        faultAt("1:1-1", 3);
        faultAt("1:1.1", 3);
    }

    private static void endsTooEarly() {
        Check.words("or the length of the text if it ends too early (the empty text does).");
        faultAt("", 0);
        faultAt(".", 1);
        faultAt(".3", 2);
        faultAt(".33", 3);
        faultAt("5", 1);
        faultAt("55", 2);
        faultAt("5-", 2);
        faultAt("5-6", 3);
        faultAt("5:", 2);
        faultAt("5:1,", 4);
        faultAt("5:1/", 4);
        faultAt("5:1,5", 5);
        faultAt("1:1,1:1,1:1,1:1,1:1,1:1,1:1,1:1,1:1,1:1,1:1,1:1,1:1,1:1,1:1,", 60);
        faultAt("1:11,1:11,1:1,1:1,1:1,1:1,1:1,1:1,1:1,1:1,1:1,1:1,1:1,1:1,1:", 60);
        songOf("5:3", 0, 5, 5, 3);
    }

    // ---- history

    private static void history() {
        fourStates();
        changesRecord();
        othersDoNotRecord();
        oldestIsDropped();
        snapshotAtFirst();
        oneSnapshot();
        theState();
    }

    private static void fourStates() {
        Check.words("A history of at most 4 states is kept.");
        SungSlides x = new SungSlides();
        Check.due("none at first", x.total(13), 0);
        for (int i = 1; i <= 10; i++) {
            x.sing(i, 1, i);
            Check.due("states after " + i, x.total(13), Math.min(4, i));
        }
    }

    private static void changesRecord() {
        Check.words("Each call of a method that is described as a change, and that returns neither an error nor NONE, records the state before it;");
        for (int change = 0; change < 8; change++) {
            SungSlides x = Songs.made("20:2,25:2");
            x.sing(5, 5, 5);
            x.keep();
            String before = Check.state(x);
            makeChange(x, change);
            Check.due("states after the change " + change, x.total(13), 3);
            Check.due("undo of the change " + change, x.undo(), 2);
            Check.due("the state then", Check.state(x), before);
        }
    }

    private static void makeChange(SungSlides x, int change) {
        switch (change) {
            case 0 -> x.add(0, 20, 20, 1, true);
            case 1 -> x.drop();
            case 2 -> x.read();
            case 3 -> x.set(4, 100);
            case 4 -> x.sing(5, 5, 5);
            case 5 -> x.silence(300, 300);
            case 6 -> x.singAlong(0, 1, 60);
            default -> x.restore();
        }
    }

    private static void othersDoNotRecord() {
        Check.words("Each call of a method that is described as a change");
        SungSlides x = Songs.made("20:2,25:2");
        x.keep();
        x.type('1');
        x.clearText();
        x.syllable(0, 0);
        x.wanted(0);
        x.sung(0);
        x.lit(0, 0);
        x.phrase(0, 0);
        x.total(0);
        x.ifShifted(1, 1);
        x.bestShift();
        x.ifSet(0, 2);
        x.worst();
        Check.due("one state alone", x.total(13), 1);
        Check.due("undo takes it", x.undo(), 0);
        Check.due("and records none", x.total(13), 0);
        Check.due("nothing to undo, so nothing to undo it", x.undo(), NONE);
    }

    private static void oldestIsDropped() {
        Check.words("if there are 4 already, the oldest one is dropped.");
        SungSlides x = new SungSlides();
        for (int round = 0; round < 3; round++) {
            for (int i = 0; i < 6; i++) {
                x.sing(0, 1, 10 * round + i);
            }
            for (int i = 4; i >= 1; i--) {
                Check.due("undo", x.undo(), i - 1);
                Check.due("sung then", x.sung(0), 10 * round + i);
            }
            Check.due("the older ones are gone", x.undo(), NONE);
            Check.due("nothing changes then", x.sung(0), 10 * round + 1);
        }
        x.sing(0, 1, 50);
        Check.due("one again", x.total(13), 1);
        x.undo();
        Check.due("undone", x.sung(0), 21);
    }

    private static void snapshotAtFirst() {
        Check.words("There is one snapshot, empty at first.");
        SungSlides x = Songs.ofTicks(1);
        Check.due("none to restore", x.restore(), NONE);
        Check.due("the song stays", x.total(5), 1);
        x.undo();
        Check.due("none after undo", x.restore(), NONE);
    }

    private static void oneSnapshot() {
        Check.words("There is one snapshot");
        SungSlides x = Songs.ofTicks(1);
        x.keep();
        x.add(0, 20, 20, 1, false);
        x.keep();
        x.add(0, 20, 20, 1, false);
        Check.due("the later one", x.restore(), 2);
        x.undo();
        x.undo();
        x.undo();
        Check.due("undone to the song of the first one", x.total(5), 1);
        Check.due("undo did not take the snapshot", x.restore(), 2);
    }

    private static void theState() {
        Check.words("The state is everything except the text, the history and the snapshot.");
        SungSlides x = Songs.typed("20:2");
        x.read();
        x.set(0, 64);
        x.sing(0, 2, 20);
        String kept = Check.state(x);
        x.keep();
        x.type(',');
        x.drop();
        x.set(0, 2);
        x.silence(0, 600);
        Check.due("restore", x.restore(), 1);
        Check.due("the state is that of the snapshot", Check.state(x), kept);
        Check.due("the text is not", x.total(14), 5);
        Check.due("the history is not", x.total(13), 4);
        x.clearText();
        Check.due("undo", x.undo(), 3);
        Check.due("the text stays empty", x.total(14), 0);
        Check.due("what was sung before restore", x.sung(0), NONE);
        Check.due("BAR before restore", x.total(0), 2);
        Check.due("the song before restore", x.total(5), 0);
    }

    // ---- errors

    private static void errors() {
        severalErrors();
        noneIsLast();
        nothingChanges();
    }

    private static void severalErrors() {
        Check.words("If several errors apply, the one that stands first in the @return line is returned.");
        int[][] wrong = {
            {-1, 20, 20, 1}, {33, 20, 20, 1}, {0, -1, 20, 1}, {0, 61, 20, 1}, {0, 20, -1, 1}, {0, 20, 61, 1}, {0, 20, 20, 0}, {0, 20, 20, 33}
        };
        SungSlides[] full = {Songs.ofTicks(40), Songs.upTo599()};
        for (SungSlides x : full) {
            for (int[] w : wrong) {
                Check.due("add, FULL too", x.add(w[0], w[1], w[2], w[3], true), OUT_OF_RANGE);
            }
            Check.due("add, FULL alone", x.add(0, 20, 20, 1, true), FULL);
        }
        SungSlides x = Songs.ofTicks(3);
        Check.due("set", x.set(5, -1), UNKNOWN);
        Check.due("singAlong, first and by", x.singAlong(-1, 2, 61), UNKNOWN);
        Check.due("singAlong, last and by", x.singAlong(0, 3, -61), UNKNOWN);
        Check.due("singAlong, first, and last below first", x.singAlong(3, 0, 0), UNKNOWN);
        Check.due("singAlong, last, and last below first", x.singAlong(0, -1, 0), UNKNOWN);
        Check.due("syllable", x.syllable(3, 12), UNKNOWN);
        Check.due("lit", x.lit(-1, 600), UNKNOWN);
        Check.due("phrase", x.phrase(1, -1), UNKNOWN);
        Check.due("ifSet", x.ifSet(-1, 101), UNKNOWN);
    }

    private static void noneIsLast() {
        Check.words("NONE is not an error; it is returned only if no error applies.");
        SungSlides x = new SungSlides();
        Check.due("wanted", x.wanted(600), OUT_OF_RANGE);
        Check.due("sung", x.sung(600), OUT_OF_RANGE);
        Check.due("set", x.set(5, 16), UNKNOWN);
        Check.due("wanted at no syllable", x.wanted(599), NONE);
        Check.due("sung at silence", x.sung(599), NONE);
        Check.due("set to the same", x.set(0, 16), NONE);
    }

    private static void nothingChanges() {
        Check.words("A method that returns an error or NONE changes nothing.");
        SungSlides x = Songs.made("20:2,25:2/30-40:4");
        x.singAlong(0, 1, 1);
        x.type('x');
        String before = Check.whole(x);
        for (int i = 0; i < 22; i++) {
            Check.due("the call " + i + " is refused", isRefused(refusedCall(x, i)) ? 1 : 0, 1);
            Check.due("the whole behind the call " + i, Check.whole(x), before);
        }
        Check.due("the history is whole", x.undo(), 1);
        Check.due("silent as before", x.total(8), 0);
        Check.due("the history is whole", x.undo(), 0);
        Check.due("empty as before", x.total(5), 0);
        before = Check.whole(x);
        Check.due("drop of nothing", x.drop(), NONE);
        Check.due("undo of nothing", x.undo(), NONE);
        Check.due("worst of nothing", x.worst(), NONE);
        Check.due("the whole then", Check.whole(x), before);
    }

    private static boolean isRefused(int answer) {
        return answer == UNKNOWN || answer == OUT_OF_RANGE || answer == NONE || answer <= -100;
    }

    private static int refusedCall(SungSlides x, int number) {
        return switch (number) {
            case 0 -> x.add(33, 1, 1, 1, true);
            case 1 -> x.add(1, 61, 1, 1, true);
            case 2 -> x.add(1, 1, 61, 1, true);
            case 3 -> x.add(1, 1, 1, 33, true);
            case 4 -> x.read();
            case 5 -> x.set(5, 1);
            case 6 -> x.set(0, 1);
            case 7 -> x.set(0, 16);
            case 8 -> x.sing(600, 1, 1);
            case 9 -> x.sing(599, 2, 1);
            case 10 -> x.sing(0, 1, 61);
            case 11 -> x.silence(600, 1);
            case 12 -> x.silence(0, 601);
            case 13 -> x.singAlong(0, 3, 0);
            case 14 -> x.singAlong(1, 0, 0);
            case 15 -> x.singAlong(0, 2, 61);
            case 16 -> x.restore();
            case 17 -> x.syllable(3, LEAST);
            case 18 -> x.lit(0, MOST);
            case 19 -> x.phrase(MOST, 0);
            case 20 -> x.ifShifted(33, 0);
            default -> x.ifSet(4, 101);
        };
    }
}
