/** A test for each sentence of the promises that names a boundary case; the words that are tested head each test. */
public final class BoundaryPromisesTest {
    private static final int UNKNOWN = SungSlides.UNKNOWN;
    private static final int OUT_OF_RANGE = SungSlides.OUT_OF_RANGE;
    private static final int FULL = SungSlides.FULL;
    private static final int NONE = SungSlides.NONE;
    private static final int LEAST = Integer.MIN_VALUE;
    private static final int MOST = Integer.MAX_VALUE;
    private static final int[] LOWEST_VALUES = {2, 0, 0, 0, 1};
    private static final int[] HIGHEST_VALUES = {64, 6, 8, 1, 100};

    public static void main(String[] args) {
        manyCalls();
        newObject();
        song();
        singing();
        texts();
        history();
        syllables();
        ticks();
        phrases();
        totals();
        shifts();
        bestShifts();
        otherSettings();
        worst();
        nothingChanges();
        Check.end();
    }

    private static void manyCalls() {
        Check.words("An object is used for at most 512 calls after it has been made;");
        SungSlides x = new SungSlides();
        for (int i = 1; i <= 511; i++) {
            x.sing(i, 1, i % 61);
        }
        Check.due("the 512th", x.total(8), 511);
    }

    // ---- promise 1

    private static void newObject() {
        Check.words("Creates an empty song; nothing is sung.");
        SungSlides x = new SungSlides();
        Check.due("drop", x.drop(), NONE);
        Check.due("read", x.read(), -100);
        Check.due("silence", x.silence(0, 600), 0);
        Check.due("undo of it", x.undo(), 0);
        Check.due("undo", x.undo(), NONE);
        Check.due("restore", x.restore(), NONE);
        Check.due("singAlong", x.singAlong(0, 0, 0), UNKNOWN);
        Check.due("clearText", x.clearText(), 0);
        Check.due("syllable", x.syllable(0, 0), UNKNOWN);
        Check.due("lit", x.lit(0, 0), UNKNOWN);
        Check.due("phrase", x.phrase(0, 0), UNKNOWN);
        Check.due("ifShifted", x.ifShifted(0, 0), 0);
        Check.due("bestShift", x.bestShift(), 32);
        Check.due("ifSet", x.ifSet(0, 2), 0);
        Check.due("worst", x.worst(), NONE);
        for (int tick = 0; tick < 600; tick++) {
            Check.due("wanted", x.wanted(tick), NONE);
            Check.due("sung", x.sung(tick), NONE);
        }
        for (int what = 5; what <= 14; what++) {
            Check.due("total(" + what + ")", x.total(what), 0);
        }
        Check.due("keep", x.keep(), 0);
        Check.due("restore of nothing", x.restore(), 0);
    }

    // ---- promises 2 to 5

    private static void song() {
        addRest();
        addPitches();
        addLength();
        addFirst();
        addFull();
        drop();
        readInPlace();
        readFaults();
        set();
        setSame();
    }

    private static void addRest() {
        Check.words("`rest`: 0 to 32");
        int[] wrong = {-1, 33, LEAST, MOST, MOST - 600};
        for (int rest : wrong) {
            Check.due("rest " + rest, new SungSlides().add(rest, 20, 20, 1, true), OUT_OF_RANGE);
        }
        for (int rest = 0; rest <= 32; rest++) {
            Check.due("rest " + rest, new SungSlides().add(rest, 20, 20, 1, true), rest);
        }
    }

    private static void addPitches() {
        int[] wrong = {-1, 61, LEAST, MOST};
        Check.words("`pitch`: 0 to 60");
        for (int pitch : wrong) {
            Check.due("pitch " + pitch, new SungSlides().add(0, pitch, 20, 1, true), OUT_OF_RANGE);
        }
        Check.words("`endPitch`: 0 to 60");
        for (int pitch : wrong) {
            Check.due("end pitch " + pitch, new SungSlides().add(0, 20, pitch, 1, true), OUT_OF_RANGE);
        }
        for (int pitch = 0; pitch <= 60; pitch++) {
            SungSlides x = new SungSlides();
            Check.due("pitch " + pitch, x.add(0, pitch, 60 - pitch, 1, true), 0);
            Check.due("its pitch", x.syllable(0, 2), pitch);
            Check.due("its end pitch", x.syllable(0, 3), 60 - pitch);
        }
    }

    private static void addLength() {
        Check.words("`length`: 1 to 32");
        int[] wrong = {-1, 0, 33, LEAST, MOST};
        for (int length : wrong) {
            Check.due("length " + length, new SungSlides().add(0, 20, 20, length, true), OUT_OF_RANGE);
        }
        for (int length = 1; length <= 32; length++) {
            SungSlides x = new SungSlides();
            Check.due("length " + length, x.add(0, 20, 20, length, true), 0);
            Check.due("its length", x.syllable(0, 1), length);
            Check.due("the tick behind", x.total(7), length);
        }
    }

    private static void addFirst() {
        Check.words("(the first syllable of a song does anyhow)");
        SungSlides x = new SungSlides();
        x.add(0, 20, 20, 1, false);
        x.add(0, 20, 20, 1, false);
        Check.due("one phrase", x.total(6), 1);
        SungSlides y = new SungSlides();
        y.add(0, 20, 20, 1, true);
        y.add(0, 20, 20, 1, false);
        Check.due("one phrase", y.total(6), 1);
        y.add(0, 20, 20, 1, true);
        Check.due("two phrases", y.total(6), 2);
    }

    private static void addFull() {
        Check.words("FULL if there are 40, or its last tick would be above 599.");
        SungSlides x = Songs.ofTicks(39);
        Check.due("there are 39", x.add(0, 20, 20, 1, true), 39);
        Check.due("there are 40", x.add(0, 20, 20, 1, true), FULL);
        Check.due("FULL records nothing", x.total(13), 4);
        SungSlides y = Songs.upTo575();
        Check.due("600, by the length", y.add(0, 20, 20, 25, true), FULL);
        Check.due("600, by the rest", y.add(24, 20, 20, 1, true), FULL);
        Check.due("600, by both", y.add(12, 20, 20, 13, true), FULL);
        Check.due("599, by both", y.add(12, 20, 20, 12, true), 588);
        Check.due("no tick is left", y.add(0, 20, 20, 1, true), FULL);
        Check.due("there are few", y.total(5), 10);
    }

    private static void drop() {
        Check.words("Returns how many are left; NONE if there is none.");
        SungSlides x = Songs.ofTicks(40);
        for (int left = 39; left >= 0; left--) {
            Check.due("drop", x.drop(), left);
        }
        int states = x.total(13);
        Check.due("drop without one", x.drop(), NONE);
        Check.due("records nothing", x.total(13), states);
        x.undo();
        Check.due("undo brings the last one back", x.total(5), 1);
    }

    private static void readInPlace() {
        Check.words("Makes the song that of the text, which stays, in place of the one that there is; what is sung stays.");
        SungSlides[] songs = {new SungSlides(), Songs.ofTicks(40), Songs.upTo599()};
        for (SungSlides x : songs) {
            x.sing(599, 1, 7);
            x.set(1, 6);
            Songs.write(x, "20-25:6/.330:3");
            int before = x.total(5);
            Check.due("read", x.read(), 2);
            Check.due("its ticks", x.total(7), 12);
            Check.due("its phrases", x.total(6), 2);
            Check.due("nothing is left of the song", x.syllable(2, 0), UNKNOWN);
            Check.due("the text stays", x.total(14), 14);
            Check.due("what is sung stays", x.sung(599), 7);
            Check.due("the settings stay", x.total(1), 6);
            Check.due("read again", x.read(), 2);
            x.undo();
            x.undo();
            Check.due("the song that there was", x.total(5), before);
        }
        Check.words("FULL if the last tick would be above 599.");
        SungSlides x = Songs.typed(".320:32,.320:32,.320:32,.320:32,.320:32,.320:32,.320:32,0:32");
        Check.due("as many ticks as a text can tell", x.read(), 8);
        Check.due("they are far less than 600", x.total(7), 480);
    }

    private static void readFaults() {
        Check.words("-100 minus the fault of the text if it has one (this is an error);");
        SungSlides x = Songs.ofTicks(3);
        Check.due("the empty text", x.read(), -100);
        String text = "1:1,1:1,1:1,1:1,1:1,1:1,1:1,1:1,1:1,1:1,1:1,1:1,1:1,1:1,1:1,";
        for (int i = 0; i < 60; i++) {
            x.type(text.charAt(i));
            int due = i % 4 == 2 ? (i + 2) / 4 : -101 - i;
            Check.due("read of " + (i + 1) + " characters", x.read(), due);
        }
        Check.due("the longest that can be read stands", x.total(5), 15);
        SungSlides y = Songs.ofTicks(3);
        y.type('x');
        Check.due("a fault at 0", y.read(), -100);
        Check.due("records nothing", y.total(13), 3);
        Check.due("the song stays", y.total(5), 3);
    }

    private static void set() {
        Check.words("`setting`: 0 to 4");
        SungSlides x = new SungSlides();
        int[] wrong = {-1, 5, LEAST, MOST};
        for (int setting : wrong) {
            Check.due("set(" + setting + ", 2)", x.set(setting, 2), UNKNOWN);
        }
        Check.words("`value`: in its range");
        for (int setting = 0; setting < 5; setting++) {
            int before = x.total(setting);
            int[] beyond = {LOWEST_VALUES[setting] - 1, HIGHEST_VALUES[setting] + 1, LEAST, MOST};
            for (int value : beyond) {
                Check.due("set(" + setting + ", " + value + ")", x.set(setting, value), OUT_OF_RANGE);
            }
            Check.due("highest of " + setting, x.set(setting, HIGHEST_VALUES[setting]), before);
            Check.due("lowest of " + setting, x.set(setting, LOWEST_VALUES[setting]), HIGHEST_VALUES[setting]);
        }
    }

    private static void setSame() {
        Check.words("NONE if it has this value already.");
        SungSlides x = new SungSlides();
        for (int setting = 0; setting < 5; setting++) {
            Check.due("the first value of " + setting, x.set(setting, x.total(setting)), NONE);
        }
        Check.due("NONE records nothing", x.total(13), 0);
        x.set(2, 8);
        Check.due("the same again", x.set(2, 8), NONE);
        Check.due("records nothing", x.total(13), 1);
        x.undo();
        Check.due("another value again", x.set(2, 8), 2);
    }

    // ---- promises 6 to 8

    private static void singing() {
        singTicks();
        singPitches();
        singInPlace();
        silenceTicks();
        silenceCounts();
        singAlongSyllables();
        singAlongBy();
        singAlongBeyond();
        singAlongTicks();
    }

    private static void singTicks() {
        Check.words("`tick`: 0 to 599: the first tick");
        SungSlides x = new SungSlides();
        int[] wrong = {-1, 600, LEAST, MOST};
        for (int tick : wrong) {
            Check.due("sing at " + tick, x.sing(tick, 1, 20), OUT_OF_RANGE);
        }
        Check.due("sing at 0", x.sing(0, 1, 20), 0);
        Check.due("sing at 599", x.sing(599, 1, 20), 0);
        Check.due("two ticks alone", x.total(8), 2);
        Check.words("`ticks`: 1 to 64, and so that none of them is above the tick 599 (otherwise OUT_OF_RANGE)");
        int[][] beyond = {{0, 0}, {0, -1}, {0, 65}, {0, LEAST}, {0, MOST}, {599, 2}, {537, 64}, {599, MOST}, {1, MOST}, {599, LEAST}};
        for (int[] b : beyond) {
            Check.due("sing " + b[1] + " at " + b[0], x.sing(b[0], b[1], 20), OUT_OF_RANGE);
        }
        Check.due("two ticks alone", x.total(8), 2);
        Check.due("64 at 0", x.sing(0, 64, 20), 0);
        Check.due("not the 65th", x.sung(64), NONE);
        Check.due("64 at 536", x.sing(536, 64, 20), 0);
        Check.due("not the tick ahead", x.sung(535), NONE);
        Check.due("128 ticks", x.total(8), 128);
    }

    private static void singPitches() {
        Check.words("`pitch`: 0 to 60");
        SungSlides x = new SungSlides();
        int[] wrong = {-1, 61, LEAST, MOST};
        for (int pitch : wrong) {
            Check.due("sing " + pitch, x.sing(0, 1, pitch), OUT_OF_RANGE);
        }
        Check.due("nothing was sung", x.total(8), 0);
        for (int pitch = 0; pitch <= 60; pitch++) {
            Check.due("sing " + pitch, x.sing(0, 1, pitch), 0);
            Check.due("sung", x.sung(0), pitch);
        }
    }

    private static void singInPlace() {
        Check.words("Sings a pitch for some ticks, in place of what is sung there.");
        SungSlides x = new SungSlides();
        x.sing(10, 10, 20);
        x.sing(12, 3, 30);
        int[] due = {NONE, 20, 20, 30, 30, 30, 20, 20, 20, 20, 20, NONE};
        for (int i = 0; i < 12; i++) {
            Check.due("sung at " + (9 + i), x.sung(9 + i), due[i]);
        }
        Check.words("Returns how many syllables are hit then; OUT_OF_RANGE.");
        SungSlides y = Songs.made("20:2,30:2/20:2");
        Check.due("one", y.sing(0, 2, 20), 1);
        Check.due("another", y.sing(2, 2, 30), 2);
        Check.due("of another phrase", y.sing(4, 2, 20), 3);
        Check.due("one less", y.sing(2, 2, 40), 2);
        Check.due("none", y.sing(0, 64, 0), 0);
    }

    private static void silenceTicks() {
        Check.words("`tick`: 0 to 599: the first tick");
        SungSlides x = new SungSlides();
        x.sing(0, 1, 20);
        x.sing(599, 1, 20);
        int[] wrong = {-1, 600, LEAST, MOST};
        for (int tick : wrong) {
            Check.due("silence at " + tick, x.silence(tick, 1), OUT_OF_RANGE);
        }
        Check.words("`ticks`: 1 to 600, and so that none of them is above the tick 599 (otherwise OUT_OF_RANGE)");
        int[][] beyond = {{0, 0}, {0, -1}, {0, 601}, {1, 600}, {599, 2}, {0, LEAST}, {0, MOST}, {599, MOST}, {1, MOST}, {599, LEAST}};
        for (int[] b : beyond) {
            Check.due("silence " + b[1] + " at " + b[0], x.silence(b[0], b[1]), OUT_OF_RANGE);
        }
        Check.due("nothing was lost", x.total(8), 2);
        Check.due("the tick 599", x.silence(599, 1), 1);
        Check.due("the tick 0", x.silence(0, 1), 1);
        Check.due("all, from the tick 0", x.silence(0, 600), 0);
        Check.due("all but the tick 0", x.silence(1, 599), 0);
    }

    private static void silenceCounts() {
        Check.words("Returns at how many of these ticks something was sung; OUT_OF_RANGE.");
        SungSlides x = new SungSlides();
        for (int tick = 0; tick < 600; tick += 60) {
            x.sing(tick, 60, 0);
        }
        Check.due("one inside", x.silence(300, 1), 1);
        Check.due("around it", x.silence(299, 3), 2);
        Check.due("ahead of it stays", x.sung(298), 0);
        Check.due("behind it stays", x.sung(302), 0);
        Check.due("nothing there", x.silence(299, 3), 0);
        Check.due("all others", x.silence(0, 600), 597);
    }

    private static void singAlongSyllables() {
        SungSlides x = Songs.made("20:1,30:1,20:1,30:1");
        Check.words("`first`: a syllable");
        int[] wrong = {-1, 4, LEAST, MOST};
        for (int i : wrong) {
            Check.due("first " + i, x.singAlong(i, 3, 0), UNKNOWN);
        }
        Check.words("`last`: the same one or one behind it");
        for (int i : wrong) {
            Check.due("last " + i, x.singAlong(0, i, 0), UNKNOWN);
        }
        for (int first = 0; first < 4; first++) {
            for (int last = 0; last < 4; last++) {
                x.silence(0, 600);
                Check.due("singAlong(" + first + ", " + last + ", 0)", x.singAlong(first, last, 0), last < first ? OUT_OF_RANGE : last - first + 1);
                Check.due("sung then", x.total(8), Math.max(0, last - first + 1));
            }
        }
    }

    private static void singAlongBy() {
        Check.words("`by`: -60 to 60");
        SungSlides x = Songs.made("0-60:2");
        int[] wrong = {-61, 61, LEAST, MOST};
        for (int by : wrong) {
            Check.due("by " + by, x.singAlong(0, 0, by), OUT_OF_RANGE);
        }
        Check.due("nothing was sung", x.total(8) + x.total(13), 1);
        int[][] due = {{-60, NONE, 0, 0}, {-59, NONE, 1, 0}, {-1, NONE, 59, 1}, {0, 0, 60, 1}, {1, 1, NONE, 1}, {59, 59, NONE, 0}, {60, 60, NONE, 0}};
        for (int[] d : due) {
            Check.due("by " + d[0], x.singAlong(0, 0, d[0]), d[3]);
            Check.due("sung at 0 by " + d[0], x.sung(0), d[1]);
            Check.due("sung at 1 by " + d[0], x.sung(1), d[2]);
        }
        Check.words("UNKNOWN; OUT_OF_RANGE (last is below first, or by).");
        SungSlides y = Songs.ofTicks(2);
        Check.due("last is below first", y.singAlong(1, 0, 0), OUT_OF_RANGE);
        Check.due("both", y.singAlong(1, 0, 61), OUT_OF_RANGE);
        Check.due("UNKNOWN", y.singAlong(2, 1, 61), UNKNOWN);
    }

    private static void singAlongBeyond() {
        Check.words("(where that is not 0 to 60, nothing is sung)");
        SungSlides x = Songs.made("55-60:6");
        x.sing(0, 6, 7);
        x.singAlong(0, 0, 3);
        int[] due = {58, 59, 60, NONE, NONE, NONE};
        for (int tick = 0; tick < 6; tick++) {
            Check.due("higher, at " + tick, x.sung(tick), due[tick]);
        }
        SungSlides y = Songs.made("0-5:6");
        y.sing(0, 6, 7);
        y.singAlong(0, 0, -3);
        int[] low = {NONE, NONE, NONE, 0, 1, 2};
        for (int tick = 0; tick < 6; tick++) {
            Check.due("lower, at " + tick, y.sung(tick), low[tick]);
        }
        Check.due("all beyond", y.singAlong(0, 0, -6), 0);
        Check.due("is silence in place of what was sung", y.total(8), 0);
    }

    private static void singAlongTicks() {
        Check.words("in place of what is sung at their ticks");
        SungSlides x = new SungSlides();
        x.add(4, 20, 20, 2, true);
        x.add(3, 30, 30, 2, true);
        x.add(0, 40, 40, 2, true);
        x.sing(0, 20, 7);
        x.singAlong(0, 1, 0);
        int[] due = {7, 7, 7, 7, 20, 20, 7, 7, 7, 30, 30, 7, 7};
        for (int tick = 0; tick < 13; tick++) {
            Check.due("sung at " + tick, x.sung(tick), due[tick]);
        }
        SungSlides y = Songs.upTo599();
        y.singAlong(9, 9, 0);
        Check.due("the tick 599", y.sung(599), 20);
        Check.due("it alone", y.total(8), 1);
    }

    // ---- promises 9 and 10

    private static void texts() {
        Check.words("Returns the length of the text then; FULL if it has 60 characters.");
        SungSlides x = new SungSlides();
        for (int i = 1; i <= 60; i++) {
            Check.due("type", x.type('1'), i);
        }
        Check.due("the 61st", x.type('1'), FULL);
        Check.due("and again", x.type('1'), FULL);
        Check.words("`character`: any character");
        x.clearText();
        char[] characters = {'\u0000', '\n', ' ', '0', 'z', '\u007f', '\u0080', '\u00ff', '\u0100', '\ud800', '\uffff'};
        for (int i = 0; i < characters.length; i++) {
            Check.due("type of " + (int) characters[i], x.type(characters[i]), i + 1);
        }
        Check.words("Returns the length that it had.");
        Check.due("clear", x.clearText(), characters.length);
        Check.due("clear of an empty one", x.clearText(), 0);
        for (int i = 0; i < 60; i++) {
            x.type(i % 2 == 0 ? '1' : ':');
        }
        Check.due("clear of a full one", x.clearText(), 60);
        Check.due("room again", x.type('5'), 1);
        Check.due("its length alone counts", x.read(), -101);
    }

    // ---- promises 11 to 13

    private static void history() {
        Check.words("Returns how many states are left; NONE if the history is empty.");
        SungSlides x = new SungSlides();
        Check.due("undo at first", x.undo(), NONE);
        for (int i = 1; i <= 5; i++) {
            x.add(0, i, i, 1, true);
        }
        for (int left = 3; left >= 0; left--) {
            Check.due("undo", x.undo(), left);
            Check.due("syllables", x.total(5), left + 1);
            Check.due("the last one's pitch", x.syllable(left, 2), left + 1);
        }
        Check.due("undo behind the last one", x.undo(), NONE);
        Check.due("nothing changes", x.total(5), 1);
        kept();
        restored();
    }

    private static void kept() {
        Check.words("Takes a snapshot of the state, in place of an earlier one.");
        SungSlides x = new SungSlides();
        Check.due("of an empty song", x.keep(), 0);
        Check.due("no change", x.total(13), 0);
        x.add(0, 20, 20, 1, true);
        Check.due("restore of it", x.restore(), 0);
        SungSlides y = Songs.ofTicks(40);
        Check.due("of a full song", y.keep(), 40);
        y.drop();
        Check.due("restore of it", y.restore(), 40);
        Check.due("full again", y.add(0, 20, 20, 1, true), FULL);
        y.drop();
        Check.due("in place of it", y.keep(), 39);
        y.drop();
        Check.due("restore of that", y.restore(), 39);
    }

    private static void restored() {
        Check.words("NONE if there is no snapshot.");
        SungSlides x = Songs.ofTicks(1);
        Check.due("none", x.restore(), NONE);
        Check.due("records nothing", x.total(13), 1);
        Check.words("Restores the state of the snapshot, which stays.");
        x.keep();
        for (int i = 0; i < 6; i++) {
            x.add(0, 30, 30, 1, true);
            Check.due("restore", x.restore(), 1);
            Check.due("changes later than keep do not reach it", x.syllable(0, 2), 20);
        }
        Check.due("each is a change", x.total(13), 4);
        Check.due("undo of restore", x.undo(), 3);
        Check.due("the syllable is back", x.syllable(1, 2), 30);
    }

    // ---- promise 14

    private static void syllables() {
        SungSlides x = Songs.made("20:2,.3030-40:3/25:4");
        Check.words("`syllable`: a syllable");
        int[] none = {-1, 3, 40, LEAST, MOST};
        for (int i : none) {
            Check.due("syllable(" + i + ", 0)", x.syllable(i, 0), UNKNOWN);
            Check.due("syllable(" + i + ", 11)", x.syllable(i, 11), UNKNOWN);
        }
        int[][] due = {
            {0, 2, 20, 20, 0, 0, 0, 0, NONE, 1, 0, 0}, {32, 3, 30, 40, 0, 0, 0, 0, NONE, 1, 0, 0}, {35, 4, 25, 25, 1, 0, 0, 0, NONE, 1, 0, 0}
        };
        for (int i = 0; i < 3; i++) {
            for (int what = 0; what <= 11; what++) {
                Check.due("syllable(" + i + ", " + what + ")", x.syllable(i, what), due[i][what]);
            }
        }
        int[] wrong = {-1, 12, LEAST, MOST};
        for (int what : wrong) {
            Check.due("syllable(2, " + what + ")", x.syllable(2, what), OUT_OF_RANGE);
        }
        Check.words("8 for its onset (NONE without one), 9 for why it is missed (0 if it is hit)");
        x.sing(2, 1, 20);
        Check.due("an onset, and nothing sung", x.syllable(0, 8) * 10 + x.syllable(0, 9), 21);
        x.sing(0, 3, 20);
        Check.due("an onset at 0, and hit", x.syllable(0, 8) * 10 + x.syllable(0, 9), 0);
        Check.words("11 for how many syllables ahead of it were hit (R, so at most 10)");
        Check.due("a missed one has a row ahead too", x.syllable(1, 11), 1);
        Check.due("but no points", x.syllable(1, 10), 0);
        Check.due("another phrase", x.syllable(2, 11), 0);
    }

    // ---- promises 15 to 17

    private static final int[] NO_TICKS = {-1, 600, LEAST, MOST};

    private static void ticks() {
        wanted();
        sung();
        lit();
    }

    private static void wanted() {
        Check.words("Returns the wanted pitch at a tick. - `tick`: 0 to 599");
        SungSlides x = Songs.upTo599();
        for (int tick : NO_TICKS) {
            Check.due("wanted at " + tick, x.wanted(tick), OUT_OF_RANGE);
            Check.due("wanted at " + tick + " without syllables", new SungSlides().wanted(tick), OUT_OF_RANGE);
        }
        Check.due("wanted at 0", Songs.made("7:1").wanted(0), 7);
        Check.due("wanted at 599", x.wanted(599), 20);
        Check.words("NONE if no syllable has this tick.");
        int[][] due = {{0, NONE}, {31, NONE}, {32, 20}, {63, 20}, {64, NONE}, {575, 20}, {576, NONE}, {598, NONE}, {599, 20}};
        for (int[] d : due) {
            Check.due("wanted at " + d[0], x.wanted(d[0]), d[1]);
        }
    }

    private static void sung() {
        Check.words("Returns what is sung at a tick. - `tick`: 0 to 599");
        SungSlides x = new SungSlides();
        x.sing(0, 2, 0);
        x.sing(598, 2, 60);
        for (int tick : NO_TICKS) {
            Check.due("sung at " + tick, x.sung(tick), OUT_OF_RANGE);
            Check.due("sung at " + tick + " where nothing is sung", new SungSlides().sung(tick), OUT_OF_RANGE);
        }
        Check.due("sung at 0", x.sung(0), 0);
        Check.due("sung at 599", x.sung(599), 60);
        Check.words("NONE if nothing is sung.");
        Check.due("sung at 1", x.sung(1), 0);
        Check.due("sung at 2", x.sung(2), NONE);
        Check.due("sung at 597", x.sung(597), NONE);
        x.silence(0, 1);
        Check.due("silent again", x.sung(0), NONE);
    }

    private static void lit() {
        Check.words("Returns how many of its ticks are at this tick or ahead of it; UNKNOWN; OUT_OF_RANGE.");
        SungSlides x = Songs.upTo599();
        int[][] lit = {
            {0, 0, 0}, {0, 31, 0}, {0, 32, 1}, {0, 33, 2}, {0, 62, 31}, {0, 63, 32}, {0, 64, 32}, {0, 599, 32},
            {9, 0, 0}, {9, 598, 0}, {9, 599, 1}
        };
        for (int[] l : lit) {
            Check.due("lit(" + l[0] + ", " + l[1] + ")", x.lit(l[0], l[1]), l[2]);
        }
        Check.due("lit at the tick 0", Songs.ofTicks(1).lit(0, 0), 1);
        Check.words("Tells how much of a syllable is lit at a tick. - `syllable`: a syllable - `tick`: 0 to 599");
        for (int tick : NO_TICKS) {
            Check.due("lit(9, " + tick + ")", x.lit(9, tick), OUT_OF_RANGE);
        }
        int[] none = {-1, 10, 40, LEAST, MOST};
        for (int i : none) {
            Check.due("lit(" + i + ", 0)", x.lit(i, 0), UNKNOWN);
            Check.due("lit(" + i + ", 600)", x.lit(i, 600), UNKNOWN);
        }
    }

    // ---- promise 18

    private static void phrases() {
        SungSlides x = Songs.made("20:1,30:1,20:1,30:1/20:1");
        Check.words("`phrase`: 0 for the first one, and so on");
        int[] none = {-1, 2, 40, LEAST, MOST};
        for (int p : none) {
            Check.due("phrase(" + p + ", 0)", x.phrase(p, 0), UNKNOWN);
            Check.due("phrase(" + p + ", 4)", x.phrase(p, 4), UNKNOWN);
        }
        int[] wrong = {-1, 5, LEAST, MOST};
        for (int what : wrong) {
            Check.due("phrase(1, " + what + ")", x.phrase(1, what), OUT_OF_RANGE);
        }
        phraseIs(x, 0, new int[] {0, 4, 0, 0, 0});
        phraseIs(x, 1, new int[] {4, 1, 0, 0, 0});
        Check.words("4 for the longest row of syllables in it that are hit one after the other");
        x.singAlong(0, 0, 0);
        phraseIs(x, 0, new int[] {0, 4, 1, 100, 1});
        x.singAlong(2, 4, 0);
        phraseIs(x, 0, new int[] {0, 4, 3, 310, 2});
        phraseIs(x, 1, new int[] {4, 1, 1, 100, 1});
        x.singAlong(1, 1, 0);
        phraseIs(x, 0, new int[] {0, 4, 4, 510, 4});
        x.sing(0, 1, 50);
        phraseIs(x, 0, new int[] {0, 4, 3, 330, 3});
        SungSlides y = new SungSlides();
        for (int i = 0; i < 40; i++) {
            y.add(1, 20, 20, 1, false);
        }
        y.singAlong(0, 39, 0);
        phraseIs(y, 0, new int[] {0, 40, 40, 10 * 165 + 29 * 200 + 50, 40});
    }

    private static void phraseIs(SungSlides x, int phrase, int[] due) {
        for (int what = 0; what < due.length; what++) {
            Check.due("phrase(" + phrase + ", " + what + ")", x.phrase(phrase, what), due[what]);
        }
    }

    // ---- promise 19

    private static void totals() {
        int[] wrong = {-1, 15, LEAST, MOST};
        for (int what : wrong) {
            Check.due("total(" + what + ")", new SungSlides().total(what), OUT_OF_RANGE);
        }
        Check.words("7 for the tick behind the last one of the song (0 without syllables)");
        SungSlides x = Songs.upTo599();
        Check.due("a full song", x.total(7), 600);
        SungSlides y = Songs.made(".1020:4");
        Check.due("a short one", y.total(7), 14);
        y.drop();
        Check.due("none", y.total(7), 0);
        Check.words("8 for the ticks at which something is sung, 9 for the onsets");
        x.sing(0, 64, 0);
        x.sing(599, 1, 0);
        Check.due("ticks", x.total(8), 65);
        Check.due("onsets, where no syllable is too", x.total(9), 2);
        Check.words("12 for the points that all phrases would bring if each syllable was sung as it is wanted, with its onset at its beginning");
        SungSlides z = Songs.ofTicks(40);
        Check.due("the same pitch all along", z.total(12), 10 * 165 + 29 * 200 + 50);
        z.set(2, 0);
        z.set(4, 100);
        Check.due("whatever WINDOW and SHARE are", z.total(12), 7500);
        SungSlides s = Songs.made("0-60:32/60-0:1");
        Check.due("a line at 16, and a phrase of one", s.total(12), 205);
        s.set(0, 2);
        Check.due("lines at 2 to 30, and none for a length of 1", s.total(12), 275);
        Check.due("and it is not sung", s.total(11) + s.total(10), 0);
    }

    // ---- promise 20

    private static void shifts() {
        Check.words("`ticks`: -32 to 32");
        SungSlides x = Songs.made(".3220:4");
        x.sing(0, 4, 20);
        int[] wrong = {-33, 33, LEAST, MOST};
        for (int ticks : wrong) {
            Check.due("ifShifted(" + ticks + ", 0)", x.ifShifted(ticks, 0), OUT_OF_RANGE);
        }
        Check.due("ifShifted(32, 0)", x.ifShifted(32, 0), 100);
        Check.due("ifShifted(-32, 0)", x.ifShifted(-32, 0), 0);
        x.sing(64, 4, 20);
        Check.due("ifShifted(-32, 0) of those at 64", x.ifShifted(-32, 0), 100);
        Check.words("`by`: -60 to 60");
        int[] beyond = {-61, 61, LEAST, MOST};
        for (int by : beyond) {
            Check.due("ifShifted(0, " + by + ")", x.ifShifted(0, by), OUT_OF_RANGE);
        }
        SungSlides y = Songs.made("60:1/0:1");
        y.sing(0, 1, 0);
        y.sing(1, 1, 60);
        Check.due("ifShifted(0, 60)", y.ifShifted(0, 60), 100);
        Check.due("ifShifted(0, -60)", y.ifShifted(0, -60), 100);
        Check.due("ifShifted(0, 0)", y.ifShifted(0, 0), 0);
        shiftedBeyond();
    }

    private static void shiftedBeyond() {
        Check.words("what would be sung at ticks that are not 0 to 599, or with a pitch that is not 0 to 60, is not sung.");
        SungSlides x = Songs.made("20:2");
        x.sing(0, 3, 20);
        Check.due("one tick is left", x.ifShifted(-2, 0), 50);
        Check.due("none is left", x.ifShifted(-3, 0), 0);
        Check.due("nothing comes in behind 599", x.ifShifted(-32, 0), 0);
        SungSlides y = Songs.upTo575();
        y.add(22, 20, 20, 2, true);
        y.sing(597, 3, 20);
        Check.due("the ticks 597 to 599 as 598 and 599", y.ifShifted(1, 0), 100);
        Check.due("the tick 597 as 599", y.ifShifted(2, 0), 48);
        Check.due("none is left", y.ifShifted(3, 0), 0);
        SungSlides z = Songs.made("58:1/2:1");
        z.set(1, 6);
        z.sing(0, 1, 58);
        z.sing(1, 1, 2);
        Check.due("up to 60", z.ifShifted(0, 2), 200);
        Check.due("61 is not sung", z.ifShifted(0, 3), 100);
        Check.due("down to 0", z.ifShifted(0, -2), 200);
        Check.due("-1 is not sung", z.ifShifted(0, -3), 100);
        Check.due("nothing has changed", z.sung(0) * 100 + z.sung(1), 5802);
        Check.due("1 later the pitches are those of the other one", z.ifShifted(1, 0), 0);
    }

    // ---- promise 21

    private static void bestShifts() {
        Check.words("Returns the ticks, -32 to 32, plus 32;");
        for (int tick = 0; tick <= 64; tick++) {
            SungSlides x = Songs.made(".3220:1");
            x.set(2, 0);
            x.sing(tick, 1, 20);
            Check.due("sung at " + tick, x.bestShift(), 64 - tick);
        }
        SungSlides y = Songs.made(".3220:1");
        y.set(2, 0);
        y.sing(65, 1, 20);
        Check.due("out of reach", y.bestShift(), 32);
        Check.words("of several the nearest to 0, of two of these the one below 0.");
        SungSlides x = Songs.made(".3220:1");
        x.set(2, 0);
        Check.due("nothing is sung", x.bestShift(), 32);
        x.sing(64, 1, 20);
        Check.due("32 earlier", x.bestShift(), 0);
        x.sing(0, 1, 20);
        Check.due("32 earlier or later", x.bestShift(), 0);
        x.sing(1, 1, 21);
        Check.due("31 later", x.bestShift(), 63);
        x.sing(63, 1, 21);
        Check.due("31 earlier or later", x.bestShift(), 1);
        x.sing(31, 1, 20);
        Check.due("1 later", x.bestShift(), 33);
        x.sing(33, 1, 20);
        Check.due("1 earlier or later", x.bestShift(), 31);
        x.sing(32, 1, 21);
        Check.due("as it is", x.bestShift(), 32);
        Check.words("Finds the shift by ticks (pitches as they are) with the most points.");
        SungSlides z = Songs.made(".3220:4");
        z.set(2, 0);
        z.sing(31, 3, 20);
        z.sing(10, 4, 20);
        Check.due("100 is more than 75, though it is farther off", z.bestShift(), 32 + 22);
    }

    // ---- promise 22

    private static void otherSettings() {
        SungSlides x = Songs.made(".3020:4/40:4");
        x.singAlong(0, 1, 0);
        Check.words("`setting`: 0 to 4");
        int[] wrong = {-1, 5, LEAST, MOST};
        for (int setting : wrong) {
            Check.due("ifSet(" + setting + ", 2)", x.ifSet(setting, 2), UNKNOWN);
        }
        Check.words("`value`: in its range");
        for (int setting = 0; setting < 5; setting++) {
            int[] beyond = {LOWEST_VALUES[setting] - 1, HIGHEST_VALUES[setting] + 1, LEAST, MOST};
            for (int value : beyond) {
                Check.due("ifSet(" + setting + ", " + value + ")", x.ifSet(setting, value), OUT_OF_RANGE);
            }
        }
        Check.words("Tells the points of all phrases with another setting.");
        Check.due("as it is", x.total(11), 205);
        Check.due("the same value", x.ifSet(0, 16), 205);
        Check.due("BAR 2", x.ifSet(0, 2), 210);
        Check.due("BAR 64", x.ifSet(0, 64), 200);
        x.singAlong(0, 1, 6);
        Check.due("TOLERANCE 6", x.ifSet(1, 6), 205);
        Check.due("TOLERANCE 5", x.ifSet(1, 5), 0);
        x.singAlong(0, 1, 12);
        Check.due("octaves", x.ifSet(3, 1), 205);
        Check.due("no octaves", x.ifSet(3, 0), 0);
        x.singAlong(0, 1, 0);
        x.silence(30, 3);
        Check.due("WINDOW 3, but SHARE 50", x.ifSet(2, 3), 100);
        Check.due("SHARE 25, but WINDOW 2", x.ifSet(4, 25), 100);
        x.set(4, 25);
        Check.due("WINDOW 3, SHARE 25", x.ifSet(2, 3), 119);
        Check.due("the others are as they were", x.total(2) * 100 + x.total(4), 225);
        Check.due("no state is recorded", x.total(13), 4);
    }

    // ---- promise 23

    private static void worst() {
        Check.words("Finds the phrase with the fewest points, of several the lowest.");
        SungSlides x = Songs.made("20:1/30:1/20:1");
        int[][] sung = {{0, 0, 0, 0}, {1, 0, 0, 1}, {0, 1, 0, 0}, {0, 0, 1, 0}, {1, 1, 0, 2}, {1, 0, 1, 1}, {0, 1, 1, 0}, {1, 1, 1, 0}};
        for (int[] s : sung) {
            x.silence(0, 600);
            for (int i = 0; i < 3; i++) {
                x.singAlong(i, i, s[i] == 1 ? 0 : 30);
            }
            Check.due("hit are " + s[0] + s[1] + s[2], x.worst(), s[3]);
        }
        SungSlides y = new SungSlides();
        for (int i = 0; i < 40; i++) {
            y.add(1, 20, 20, 1, true);
        }
        y.singAlong(0, 38, 0);
        Check.due("the last of 40", y.worst(), 39);
        y.singAlong(0, 39, 0);
        Check.due("all alike", y.worst(), 0);
        Check.words("Returns the phrase; NONE without syllables.");
        SungSlides z = Songs.ofTicks(1);
        Check.due("one phrase", z.worst(), 0);
        z.drop();
        Check.due("none", z.worst(), NONE);
    }

    // ---- promises 20 to 23

    private static void nothingChanges() {
        Check.words("what would be; nothing changes.");
        SungSlides x = Songs.made("20:4,.925:4/30-40:9");
        x.singAlong(0, 2, 1);
        x.keep();
        x.sing(3, 3, 22);
        String before = Check.whole(x);
        int[] ticks = {-33, -32, -1, 0, 1, 32, 33};
        int[] by = {-61, -60, -1, 0, 1, 60, 61};
        for (int i = 0; i < 7; i++) {
            x.ifShifted(ticks[i], 0);
            x.ifShifted(0, by[i]);
            Check.due("the whole behind ifShifted " + i, Check.whole(x), before);
        }
        for (int setting = -1; setting <= 5; setting++) {
            x.ifSet(setting, 1);
            x.ifSet(setting, 8);
            x.ifSet(setting, 64);
            Check.due("the whole behind ifSet " + setting, Check.whole(x), before);
        }
        x.bestShift();
        x.worst();
        Check.due("the whole behind bestShift and worst", Check.whole(x), before);
        Check.due("the history is as it was", x.undo(), 2);
        String kept = Check.state(x);
        x.ifShifted(5, 5);
        x.silence(0, 600);
        x.ifSet(0, 2);
        x.restore();
        Check.due("the snapshot is as it was", Check.state(x), kept);
    }
}
