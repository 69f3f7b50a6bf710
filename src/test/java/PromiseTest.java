/** Each promise by itself: ordinary inputs, edges that the document names, wrong inputs. Answers are reckoned by hand. */
public final class PromiseTest {
    private static final int LEAST = Integer.MIN_VALUE;
    private static final int MOST = Integer.MAX_VALUE;

    public static void main(String[] args) {
        newObject();
        add();
        drop();
        read();
        faults();
        set();
        sing();
        silence();
        singAlong();
        typeAndClear();
        history();
        keepAndRestore();
        syllable();
        reasons();
        onsets();
        heldBars();
        octaves();
        rows();
        wanted();
        sung();
        lit();
        phrase();
        total();
        ifShifted();
        bestShift();
        ifSet();
        worst();
        errorsChangeNothing();
        Check.end();
    }

    /** Three syllables of a phrase, begun at 2, 10 and 20, and one of another, begun at 30. */
    private static SungSlides song() {
        SungSlides x = new SungSlides();
        x.add(2, 10, 10, 4, true);
        x.add(4, 20, 20, 8, false);
        x.add(2, 30, 39, 10, false);
        x.add(0, 5, 5, 1, true);
        return x;
    }

    private static void same(String call, SungSlides x, String before) {
        Check.due(call + " then the whole", Check.whole(x), before);
    }

    private static void newObject() {
        SungSlides x = new SungSlides();
        int[] totals = {16, 1, 2, 0, 50, 0, 0, 0, 0, 0, 0, 0, 0, 0, 0};
        for (int what = 0; what < totals.length; what++) {
            Check.due("1: total(" + what + ") at first", x.total(what), totals[what]);
        }
        for (int tick = 0; tick < 600; tick++) {
            Check.due("1: sung(" + tick + ") at first", x.sung(tick), SungSlides.NONE);
        }
        SungSlides other = new SungSlides();
        other.add(0, 1, 1, 1, true);
        other.set(0, 2);
        other.sing(0, 64, 3);
        Check.due("1: objects share nothing", x.total(5) + x.total(8), 0);
        Check.due("1: nor settings", new SungSlides().total(0), 16);
    }

    private static void add() {
        SungSlides x = new SungSlides();
        Check.due("2: add", x.add(2, 10, 12, 4, false), 2);
        Check.due("2: the first one begins a phrase anyhow", x.total(6), 1);
        Check.due("2: add without a rest", x.add(0, 60, 0, 32, false), 6);
        Check.due("2: add behind the longest", x.add(32, 0, 60, 1, true), 70);
        Check.due("2: phrases", x.total(6), 2);
        Check.due("2: pitch", x.syllable(1, 2), 60);
        Check.due("2: end pitch", x.syllable(1, 3), 0);
        Check.due("2: records", x.total(13), 3);
        int[][] wrong = {
            {-1, 0, 0, 1}, {33, 0, 0, 1}, {0, -1, 0, 1}, {0, 61, 0, 1}, {0, 0, -1, 1}, {0, 0, 61, 1}, {0, 0, 0, 0}, {0, 0, 0, 33},
            {LEAST, 0, 0, 1}, {MOST, 0, 0, 1}, {0, LEAST, 0, 1}, {0, MOST, 0, 1}, {0, 0, LEAST, 1}, {0, 0, MOST, 1},
            {0, 0, 0, LEAST}, {0, 0, 0, MOST}
        };
        for (int[] w : wrong) {
            Check.due("2: add out of range", x.add(w[0], w[1], w[2], w[3], true), SungSlides.OUT_OF_RANGE);
        }
        Check.due("2: nothing changed", x.total(5) * 10 + x.total(13), 33);
        for (int i = 3; i < 40; i++) {
            Check.due("2: add " + i, x.add(1, 7, 7, 2, false), 72 + 3 * (i - 3));
        }
        String before = Check.whole(x);
        Check.due("2: add the 41st", x.add(0, 0, 0, 1, false), SungSlides.FULL);
        Check.due("2: add the 41st, out of range", x.add(0, 0, 0, 33, false), SungSlides.OUT_OF_RANGE);
        same("2: add the 41st", x, before);
        tooLong();
    }

    private static void tooLong() {
        SungSlides x = new SungSlides();
        for (int i = 0; i < 9; i++) {
            x.add(32, 1, 1, 32, false);
        }
        Check.due("2: add up to 600", x.add(0, 1, 1, 25, false), SungSlides.FULL);
        Check.due("2: add up to 600 with a rest", x.add(24, 1, 1, 1, false), SungSlides.FULL);
        Check.due("2: add up to 599", x.add(0, 1, 1, 24, false), 576);
        Check.due("2: add behind 599", x.add(0, 1, 1, 1, false), SungSlides.FULL);
        Check.due("2: ticks", x.total(7), 600);
    }

    private static void drop() {
        SungSlides x = song();
        Check.due("3: drop", x.drop(), 3);
        Check.due("3: its phrase is gone", x.total(6), 1);
        Check.due("3: records", x.total(13), 4);
        Check.due("3: add in its place, the phrase goes on", x.add(1, 0, 0, 1, false), 31);
        Check.due("3: phrases", x.total(6), 1);
        x.drop();
        x.drop();
        x.drop();
        Check.due("3: drop the only one", x.drop(), 0);
        int states = x.total(13);
        Check.due("3: drop without one", x.drop(), SungSlides.NONE);
        Check.due("3: NONE records nothing", x.total(13), states);
        Check.due("3: begin anew", x.add(5, 0, 0, 1, false), 5);
        Check.due("3: the first one again begins a phrase", x.total(6), 1);
        SungSlides y = new SungSlides();
        Check.due("3: drop on a new object", y.drop(), SungSlides.NONE);
        Check.due("3: records nothing", y.total(13), 0);
    }

    private static void read() {
        SungSlides x = song();
        x.sing(0, 4, 9);
        x.set(1, 3);
        Songs.write(x, ".210:8,.44:4/60-0:32,5:1");
        Check.due("4: read", x.read(), 4);
        int[][] due = {{21, 8, 0, 0, 0}, {33, 4, 4, 4, 0}, {37, 32, 60, 0, 1}, {69, 1, 5, 5, 1}};
        for (int i = 0; i < 4; i++) {
            for (int what = 0; what < 5; what++) {
                Check.due("4: syllable(" + i + ", " + what + ")", x.syllable(i, what), due[i][what]);
            }
        }
        Check.due("4: the text stays", x.total(14), 24);
        Check.due("4: what is sung stays", x.total(8), 4);
        Check.due("4: the settings stay", x.total(1), 3);
        Check.due("4: read again is a change", x.read(), 4);
        Check.due("4: records", x.total(13), 4);
        x.undo();
        x.undo();
        Check.due("4: undo brings the earlier song", x.syllable(0, 0), 2);
        Check.due("4: undo leaves the text", x.total(14), 24);
        Check.due("4: the text can be read again", x.read(), 4);
        Check.due("4: a rest of 32, then 0", Songs.typed(".320:1").read(), 1);
        SungSlides rested = Songs.typed(".150:3,.199-8:1");
        Check.due("4: rests that begin with 1", rested.read(), 2);
        Check.due("4: the rest 15", rested.syllable(0, 0), 15);
        Check.due("4: the rest 19", rested.syllable(1, 0), 37);
        Check.due("4: the pitch 9", rested.syllable(1, 2), 9);
        SungSlides most = Songs.typed("0:1,0:1,0:1,0:1,0:1,0:1,0:1,0:1,0:1,0:1,0:1,0:1,0:1,0:1,0:1");
        Check.due("4: the most syllables", most.read(), 15);
        Check.due("4: one phrase", most.total(6), 1);
        SungSlides longest = Songs.typed(".320:32,.320:32,.320:32,.320:32,.320:32,.320:32,.320:32,0:32");
        Check.due("4: a long song", longest.read(), 8);
        Check.due("4: its ticks", longest.total(7), 480);
    }

    private static void faults() {
        fault("", 0);
        fault("/", 0);
        fault(",", 0);
        fault("-", 0);
        fault(":", 0);
        fault("x", 0);
        fault(" 1:1", 0);
        fault("\u0661:1", 0);
        fault("\u0131:1", 0);
        fault(".", 1);
        fault(".0", 1);
        fault(".01:1", 1);
        fault("..", 1);
        fault(".-", 1);
        fault(".5", 2);
        fault(".5:1", 2);
        fault(".15:3", 3);
        fault(".10-0:1", 3);
        fault(".25:1", 3);
        fault(".33", 3);
        fault(".33:", 4);
        fault(".3200:1", 4);
        fault(".3261:1", 4);
        fault("0", 1);
        fault("00:1", 1);
        fault("05:1", 1);
        fault("60", 2);
        fault("61:1", 1);
        fault("70:1", 1);
        fault("600:1", 2);
        fault("5.", 1);
        fault("5,", 1);
        fault("5-", 2);
        fault("5--", 2);
        fault("5-.", 2);
        fault("5-61", 3);
        fault("5-00", 3);
        fault("5-6", 3);
        fault("5-6-", 3);
        fault("5-60", 4);
        fault("5:", 2);
        fault("5:0", 2);
        fault("5:33", 3);
        fault("5:320", 4);
        fault("5:40", 3);
        fault("5:1-", 3);
        fault("5:1:", 3);
        fault("5:1.", 3);
        fault("5:1 ", 3);
        fault("5:1,", 4);
        fault("5:1/", 4);
        fault("5:1,,", 4);
        fault("5:1/,5:1", 4);
        fault("5:1,5:1/5", 9);
        fault("0:1,0:1,0:1,0:1,0:1,0:1,0:1,0:1,0:1,0:1,0:1,0:1,0:1,0:1,0:1,", 60);
    }

    private static void fault(String text, int place) {
        SungSlides x = song();
        x.sing(3, 3, 3);
        Songs.write(x, text);
        String before = Check.whole(x);
        Check.due("4: read of \"" + text + "\"", x.read(), -100 - Math.min(place, 60));
        same("4: read of \"" + text + "\"", x, before);
    }

    private static void set() {
        SungSlides x = new SungSlides();
        int[] low = {2, 0, 0, 0, 1};
        int[] high = {64, 6, 8, 1, 100};
        int[] first = {16, 1, 2, 0, 50};
        for (int i = 0; i < 5; i++) {
            Check.due("5: below", x.set(i, low[i] - 1), SungSlides.OUT_OF_RANGE);
            Check.due("5: above", x.set(i, high[i] + 1), SungSlides.OUT_OF_RANGE);
            Check.due("5: far below", x.set(i, LEAST), SungSlides.OUT_OF_RANGE);
            Check.due("5: far above", x.set(i, MOST), SungSlides.OUT_OF_RANGE);
            Check.due("5: the same", x.set(i, first[i]), SungSlides.NONE);
            Check.due("5: highest of " + i, x.set(i, high[i]), first[i]);
            Check.due("5: lowest of " + i, x.set(i, low[i]), high[i]);
            Check.due("5: is set", x.total(i), low[i]);
            Check.due("5: the same again", x.set(i, low[i]), SungSlides.NONE);
        }
        Check.due("5: no setting", x.set(5, 1), SungSlides.UNKNOWN);
        Check.due("5: no setting", x.set(-1, 1), SungSlides.UNKNOWN);
        Check.due("5: no setting", x.set(LEAST, MOST), SungSlides.UNKNOWN);
        Check.due("5: no setting", x.set(MOST, LEAST), SungSlides.UNKNOWN);
        x = new SungSlides();
        x.set(4, 50);
        x.set(4, 101);
        x.set(9, 1);
        Check.due("5: neither errors nor NONE record", x.total(13), 0);
        x.set(4, 51);
        Check.due("5: a change records", x.total(13), 1);
    }

    private static void sing() {
        SungSlides x = song();
        Check.due("6: sing", x.sing(2, 4, 10), 1);
        Check.due("6: sing another", x.sing(10, 4, 20), 2);
        Check.due("6: sung", x.sung(13), 20);
        Check.due("6: not further", x.sung(14), SungSlides.NONE);
        Check.due("6: in place of", x.sing(2, 3, 50), 1);
        Check.due("6: the rest stays", x.sung(5), 10);
        Check.due("6: what is there was overwritten", x.sung(4), 50);
        Check.due("6: sing at the end", x.sing(599, 1, 60), 1);
        Check.due("6: 64 ticks", x.sing(536, 64, 0), 1);
        Check.due("6: sung at the end", x.sung(599), 0);
        int[][] wrong = {
            {-1, 1, 0}, {600, 1, 0}, {0, 0, 0}, {0, 65, 0}, {0, 1, -1}, {0, 1, 61}, {599, 2, 0}, {537, 64, 0},
            {LEAST, 1, 0}, {MOST, 1, 0}, {0, LEAST, 0}, {0, MOST, 0}, {0, 1, LEAST}, {0, 1, MOST}, {MOST, MOST, 0}, {1, MOST, 0}
        };
        String before = Check.whole(x);
        for (int[] w : wrong) {
            Check.due("6: sing out of range", x.sing(w[0], w[1], w[2]), SungSlides.OUT_OF_RANGE);
        }
        same("6: sing out of range", x, before);
        SungSlides y = new SungSlides();
        y.sing(0, 1, 5);
        Check.due("6: the same again is a change too", y.sing(0, 1, 5), 0);
        Check.due("6: records", y.total(13), 2);
    }

    private static void silence() {
        SungSlides x = new SungSlides();
        x.sing(10, 5, 7);
        x.sing(20, 2, 0);
        Check.due("7: silence some", x.silence(12, 9), 4);
        Check.due("7: ahead stays", x.sung(11), 7);
        Check.due("7: gone", x.sung(12), SungSlides.NONE);
        Check.due("7: behind stays", x.sung(21), 0);
        Check.due("7: silence nothing", x.silence(12, 9), 0);
        Check.due("7: is a change too", x.total(13), 4);
        Check.due("7: all", x.silence(0, 600), 3);
        Check.due("7: nothing left", x.total(8), 0);
        Check.due("7: last tick", x.silence(599, 1), 0);
        int[][] wrong = {
            {-1, 1}, {600, 1}, {0, 0}, {0, 601}, {1, 600}, {599, 2}, {LEAST, 1}, {MOST, 1}, {0, LEAST}, {0, MOST}, {MOST, MOST}, {599, MOST}
        };
        String before = Check.whole(x);
        for (int[] w : wrong) {
            Check.due("7: silence out of range", x.silence(w[0], w[1]), SungSlides.OUT_OF_RANGE);
        }
        same("7: silence out of range", x, before);
    }

    private static void singAlong() {
        SungSlides x = song();
        x.sing(6, 4, 33);
        Check.due("8: sing along", x.singAlong(0, 1, 0), 2);
        Check.due("8: the rest between stays", x.sung(7), 33);
        Check.due("8: the ticks", x.sung(17), 20);
        Check.due("8: not the others", x.sung(20), SungSlides.NONE);
        Check.due("8: higher, within the tolerance", x.singAlong(1, 2, 1), 3);
        Check.due("8: a slide", x.sung(29), 40);
        Check.due("8: too high for some", x.singAlong(2, 2, 30), 2);
        Check.due("8: the highest", x.sung(20), 60);
        Check.due("8: beyond, so silent, in place of what was", x.sung(21), SungSlides.NONE);
        Check.due("8: too low for all", x.singAlong(0, 3, -60), 0);
        Check.due("8: silent", x.total(8), 4);
        Check.due("8: down to 0", x.singAlong(3, 3, -5), 0);
        Check.due("8: the lowest", x.sung(30), 0);
        String before = Check.whole(x);
        Check.due("8: no first", x.singAlong(-1, 2, 0), SungSlides.UNKNOWN);
        Check.due("8: no last", x.singAlong(2, 4, 0), SungSlides.UNKNOWN);
        Check.due("8: no last, though below first", x.singAlong(2, -1, 0), SungSlides.UNKNOWN);
        Check.due("8: UNKNOWN stands first", x.singAlong(4, 0, 61), SungSlides.UNKNOWN);
        Check.due("8: far off", x.singAlong(LEAST, MOST, 0), SungSlides.UNKNOWN);
        Check.due("8: last below first", x.singAlong(2, 1, 0), SungSlides.OUT_OF_RANGE);
        Check.due("8: by", x.singAlong(0, 1, 61), SungSlides.OUT_OF_RANGE);
        Check.due("8: by", x.singAlong(0, 1, -61), SungSlides.OUT_OF_RANGE);
        Check.due("8: by", x.singAlong(0, 1, MOST), SungSlides.OUT_OF_RANGE);
        same("8: errors", x, before);
        x.undo();
        Check.due("8: records", x.sung(30), SungSlides.NONE);
    }

    private static void typeAndClear() {
        SungSlides x = new SungSlides();
        for (int i = 1; i <= 60; i++) {
            Check.due("9: type", x.type((char) (i * 1000)), i);
        }
        Check.due("9: type the 61st", x.type('1'), SungSlides.FULL);
        Check.due("9: length", x.total(14), 60);
        Check.due("9: no change", x.total(13), 0);
        Check.due("10: clear", x.clearText(), 60);
        Check.due("10: clear again", x.clearText(), 0);
        Check.due("10: length", x.total(14), 0);
        Check.due("9: type again", x.type('\u0000'), 1);
        Check.due("10: no change", x.total(13), 0);
        x.clearText();
        Songs.write(x, "7:2");
        Check.due("9: in the order of typing", x.read(), 1);
        Check.due("9: pitch", x.syllable(0, 2), 7);
        x.clearText();
        x.undo();
        Check.due("10: undo brings no text back", x.total(14), 0);
    }

    private static void history() {
        SungSlides x = new SungSlides();
        Check.due("11: nothing to undo", x.undo(), SungSlides.NONE);
        x.add(0, 1, 1, 1, true);
        x.sing(0, 1, 1);
        x.set(0, 8);
        Check.due("11: states", x.total(13), 3);
        Check.due("11: undo set", x.undo(), 2);
        Check.due("11: BAR is back", x.total(0), 16);
        Check.due("11: undo sing", x.undo(), 1);
        Check.due("11: silent again", x.sung(0), SungSlides.NONE);
        Check.due("11: undo add", x.undo(), 0);
        Check.due("11: empty again", x.total(5), 0);
        Check.due("11: nothing more", x.undo(), SungSlides.NONE);
        for (int i = 1; i <= 6; i++) {
            x.add(0, i, i, i, true);
        }
        Check.due("11: at most 4 states", x.total(13), 4);
        Check.due("11: undo", x.undo(), 3);
        Check.due("11: syllables", x.total(5), 5);
        x.drop();
        Check.due("11: states again", x.total(13), 4);
        Check.due("11: undo", x.undo(), 3);
        Check.due("11: undo", x.undo(), 2);
        Check.due("11: undo", x.undo(), 1);
        Check.due("11: undo", x.undo(), 0);
        Check.due("11: the oldest two are gone", x.total(5), 2);
        Check.due("11: nothing left", x.undo(), SungSlides.NONE);
        Check.due("11: nothing changed", x.total(5), 2);
        eachChangeRecords();
    }

    private static void eachChangeRecords() {
        SungSlides x = new SungSlides();
        Songs.write(x, "9-5:5,3:3");
        x.read();
        String before = Check.state(x);
        int states = x.total(13);
        for (int i = 0; i < 7; i++) {
            switch (i) {
                case 0 -> x.add(0, 1, 1, 1, true);
                case 1 -> x.drop();
                case 2 -> x.read();
                case 3 -> x.set(2, 5);
                case 4 -> x.sing(5, 5, 5);
                case 5 -> x.silence(5, 5);
                default -> x.singAlong(0, 1, 0);
            }
            Check.due("11: change " + i + " records", x.total(13), states + 1);
            x.undo();
            Check.due("11: undone " + i, Check.state(x), before);
        }
        x.undo();
        x.keep();
        x.lit(0, 0);
        x.bestShift();
        x.ifShifted(1, 1);
        x.ifSet(0, 2);
        Check.due("11: others do not record", x.total(13), 0);
    }

    private static void keepAndRestore() {
        SungSlides x = song();
        Check.due("13: no snapshot", x.restore(), SungSlides.NONE);
        x.singAlong(0, 3, 0);
        x.set(3, 1);
        String kept = Check.whole(x);
        Check.due("12: keep", x.keep(), 4);
        same("12: keep", x, kept);
        x.drop();
        x.silence(0, 600);
        x.set(3, 0);
        x.type('5');
        Check.due("13: restore", x.restore(), 4);
        Check.due("13: what is sung", x.total(8), 23);
        Check.due("13: settings", x.total(3), 1);
        Check.due("13: the text is not of the state", x.total(14), 1);
        Check.due("13: restore is a change", x.undo(), 3);
        Check.due("13: undone", x.total(5), 3);
        Check.due("13: the snapshot stays, undo or not", x.restore(), 4);
        Check.due("13: and again, with no difference", x.restore(), 4);
        Check.due("13: each is a change", x.total(13), 4);
        x.drop();
        x.drop();
        Check.due("12: keep in place of an earlier one", x.keep(), 2);
        x.drop();
        Check.due("13: restore the later one", x.restore(), 2);
        SungSlides y = new SungSlides();
        Check.due("12: keep an empty song", y.keep(), 0);
        y.add(0, 0, 0, 1, true);
        Check.due("13: restore an empty song", y.restore(), 0);
        Check.due("12: keep is no change", y.total(13), 2);
    }

    private static void syllable() {
        SungSlides x = song();
        x.sing(1, 4, 11);
        x.sing(10, 3, 20);
        x.sing(20, 10, 33);
        int[][] due = {
            {2, 4, 10, 10, 0, 0, 3, 75, 1, 0, 73, 0},
            {10, 8, 20, 20, 0, 1, 3, 37, 10, 4, 0, 1},
            {20, 10, 30, 39, 0, 0, 3, 30, 20, 4, 0, 0},
            {30, 1, 5, 5, 1, 0, 0, 0, -5, 1, 0, 0}
        };
        for (int i = 0; i < 4; i++) {
            for (int what = 0; what < 12; what++) {
                Check.due("14: syllable(" + i + ", " + what + ")", x.syllable(i, what), due[i][what]);
            }
        }
        int[] none = {-1, 4, LEAST, MOST};
        for (int i : none) {
            Check.due("14: no syllable", x.syllable(i, 0), SungSlides.UNKNOWN);
            Check.due("14: UNKNOWN stands first", x.syllable(i, 12), SungSlides.UNKNOWN);
        }
        int[] wrong = {-1, 12, LEAST, MOST};
        for (int what : wrong) {
            Check.due("14: no such number", x.syllable(0, what), SungSlides.OUT_OF_RANGE);
        }
        x.drop();
        Check.due("14: a dropped one", x.syllable(3, 0), SungSlides.UNKNOWN);
    }

    private static void reasons() {
        SungSlides x = new SungSlides();
        x.add(10, 20, 20, 10, true);
        Check.due("14: nothing sung", x.syllable(0, 9), 1);
        x.sing(8, 2, 20);
        Check.due("14: sung ahead only, with an onset", x.syllable(0, 9) * 100 + x.syllable(0, 8), 108);
        x.silence(0, 600);
        x.sing(19, 1, 25);
        Check.due("14: no match, no onset", x.syllable(0, 9), 2);
        x.sing(19, 1, 21);
        Check.due("14: no onset, share too small", x.syllable(0, 9), 3);
        x.sing(12, 4, 19);
        Check.due("14: share 50 is enough", x.syllable(0, 9) * 1000 + x.syllable(0, 7), 50);
        Check.due("14: points", x.syllable(0, 10), 46);
        x.set(4, 51);
        Check.due("14: share too small", x.syllable(0, 9), 4);
        Check.due("14: no points", x.syllable(0, 10), 0);
        x.set(1, 0);
        Check.due("14: nothing within tolerance 0", x.syllable(0, 9), 2);
    }

    private static void onsets() {
        SungSlides x = new SungSlides();
        x.add(10, 20, 20, 10, true);
        x.sing(7, 13, 20);
        Check.due("14: an onset too far off", x.syllable(0, 8), SungSlides.NONE);
        x.set(2, 3);
        Check.due("14: an onset at the edge of the window", x.syllable(0, 8), 7);
        Check.due("14: less 6, and a bar line", x.syllable(0, 10), 99);
        x.sing(13, 1, 21);
        Check.due("14: of two the earlier one", x.syllable(0, 8), 7);
        x.sing(12, 1, 21);
        Check.due("14: the nearest one", x.syllable(0, 8), 12);
        x.sing(9, 1, 21);
        Check.due("14: a pitch that changes is an onset; so is the one behind it", x.syllable(0, 8), 10);
        Check.due("14: onsets", x.total(9), 5);
        x.set(2, 0);
        Check.due("14: window 0", x.syllable(0, 8), 10);
        SungSlides y = new SungSlides();
        y.add(0, 20, 20, 1, true);
        y.add(0, 20, 20, 1, true);
        y.sing(0, 2, 20);
        Check.due("14: the tick 0 can be an onset", y.syllable(0, 8), 0);
        Check.due("14: two syllables of the same onset", y.syllable(1, 8), 0);
        Check.due("14: both are hit", y.total(10), 2);
        Check.due("14: less 2", y.syllable(1, 10), 98);
        SungSlides z = new SungSlides();
        z.add(0, 20, 20, 32, true);
        z.set(4, 1);
        z.set(2, 8);
        z.sing(8, 1, 20);
        Check.due("14: together at least 0", z.syllable(0, 9) * 1000 + z.syllable(0, 10), 0);
        Check.due("14: the share", z.syllable(0, 7), 3);
    }

    private static void heldBars() {
        SungSlides x = new SungSlides();
        x.add(16, 20, 20, 16, true);
        Check.due("14: begun at a line, ended ahead of one", x.syllable(0, 5), 0);
        x.add(0, 20, 20, 17, true);
        Check.due("14: the last tick is a line", x.syllable(1, 5), 1);
        SungSlides y = new SungSlides();
        y.add(15, 20, 20, 32, true);
        Check.due("14: two lines", y.syllable(0, 5), 2);
        y.set(0, 2);
        Check.due("14: lines at 16, 18 to 46", y.syllable(0, 5), 16);
        y.set(0, 5);
        Check.due("14: 20 to 45, but not 15", y.syllable(0, 5), 6);
        y.set(0, 16);
        y.sing(15, 32, 20);
        Check.due("14: 5 for each line", y.syllable(0, 10), 110);
        y.sing(31, 1, 3);
        Check.due("14: ahead of a line no match", y.syllable(0, 10), 96 + 5);
        y.sing(31, 1, 20);
        y.sing(16, 1, 3);
        Check.due("14: at a line no match", y.syllable(0, 10), 96 + 5);
        Check.due("14: it is held all the same", y.syllable(0, 5), 2);
        SungSlides z = new SungSlides();
        z.add(0, 20, 20, 16, true);
        Check.due("14: there is no line at 0", z.syllable(0, 5), 0);
        z.add(0, 20, 20, 1, true);
        Check.due("14: nor for one tick at a line", z.syllable(1, 5), 0);
    }

    private static void octaves() {
        int[] matchesWithout = {20, 21, 19};
        SungSlides x = new SungSlides();
        x.add(0, 20, 20, 1, true);
        for (int pitch = 0; pitch <= 60; pitch++) {
            x.sing(0, 1, pitch);
            boolean isNear = false;
            for (int near : matchesWithout) {
                isNear |= pitch == near;
            }
            x.set(3, 0);
            Check.due("14: matches without octaves " + pitch, x.syllable(0, 6), isNear ? 1 : 0);
            x.set(3, 1);
            int inOctave = pitch % 12;
            Check.due("14: matches in octaves " + pitch, x.syllable(0, 6), inOctave >= 7 && inOctave <= 9 ? 1 : 0);
        }
        x.set(1, 0);
        Check.due("14: in octaves, tolerance 0, at 60", x.syllable(0, 6), 0);
        x.sing(0, 1, 56);
        Check.due("14: three octaves", x.syllable(0, 6), 1);
        x.set(1, 6);
        x.sing(0, 1, 2);
        Check.due("14: tolerance 6 in octaves takes all", x.syllable(0, 6), 1);
        x.set(3, 0);
        x.sing(0, 1, 26);
        Check.due("14: tolerance 6", x.syllable(0, 6), 1);
        x.sing(0, 1, 27);
        Check.due("14: beyond tolerance 6", x.syllable(0, 6), 0);
    }

    private static void rows() {
        SungSlides x = new SungSlides();
        for (int i = 0; i < 13; i++) {
            x.add(1, 20, 20, 2, false);
        }
        x.add(1, 20, 20, 2, true);
        x.singAlong(0, 13, 0);
        for (int i = 0; i < 13; i++) {
            Check.due("14: row ahead of " + i, x.syllable(i, 11), Math.min(10, i));
            Check.due("14: points with a row " + i, x.syllable(i, 10), (x.syllable(i, 5) == 1 ? 105 : 100) * (10 + Math.min(10, i)) / 10);
        }
        Check.due("14: a phrase begins the row anew", x.syllable(13, 11), 0);
        Check.due("16: longest row is not capped", x.phrase(0, 4), 13);
        x.silence(16, 2);
        Check.due("14: a missed one has a row ahead too", x.syllable(5, 11), 5);
        Check.due("14: a break", x.syllable(6, 11), 0);
        Check.due("14: behind a break", x.syllable(8, 11), 2);
        Check.due("16: longest row of two", x.phrase(0, 4), 7);
    }

    private static void wanted() {
        SungSlides x = song();
        Check.due("15: ahead of all", x.wanted(1), SungSlides.NONE);
        Check.due("15: at the tick 0", x.wanted(0), SungSlides.NONE);
        Check.due("15: at the tick 0, wanted", Songs.made("9:1").wanted(0), 9);
        Check.due("15: first tick", x.wanted(2), 10);
        Check.due("15: last tick", x.wanted(5), 10);
        Check.due("15: between", x.wanted(6), SungSlides.NONE);
        for (int j = 0; j < 10; j++) {
            Check.due("15: a slide", x.wanted(20 + j), 30 + j);
        }
        Check.due("15: a length of 1", x.wanted(30), 5);
        Check.due("15: behind all", x.wanted(31), SungSlides.NONE);
        x.add(0, 10, 5, 4, true);
        int[] down = {10, 9, 7, 5};
        x.add(0, 5, 10, 4, true);
        int[] up = {5, 6, 8, 10};
        for (int j = 0; j < 4; j++) {
            Check.due("15: down, rounded toward 0", x.wanted(31 + j), down[j]);
            Check.due("15: up, rounded toward 0", x.wanted(35 + j), up[j]);
        }
        x.add(0, 7, 60, 1, true);
        Check.due("15: a length of 1 has its pitch", x.wanted(39), 7);
        Check.due("15: last tick", x.wanted(599), SungSlides.NONE);
        int[] wrong = {-1, 600, LEAST, MOST};
        for (int tick : wrong) {
            Check.due("15: out of range", x.wanted(tick), SungSlides.OUT_OF_RANGE);
        }
    }

    private static void sung() {
        SungSlides x = new SungSlides();
        Check.due("16: nothing", x.sung(0), SungSlides.NONE);
        x.sing(0, 1, 0);
        x.sing(599, 1, 60);
        Check.due("16: the lowest", x.sung(0), 0);
        Check.due("16: nothing", x.sung(1), SungSlides.NONE);
        Check.due("16: the highest", x.sung(599), 60);
        int[] wrong = {-1, 600, LEAST, MOST};
        for (int tick : wrong) {
            Check.due("16: out of range", x.sung(tick), SungSlides.OUT_OF_RANGE);
        }
    }

    private static void lit() {
        SungSlides x = song();
        Check.due("17: ahead", x.lit(1, 9), 0);
        Check.due("17: far ahead", x.lit(1, 0), 0);
        Check.due("17: begun", x.lit(1, 10), 1);
        Check.due("17: going on", x.lit(1, 14), 5);
        Check.due("17: whole", x.lit(1, 17), 8);
        Check.due("17: past", x.lit(1, 18), 8);
        Check.due("17: long past", x.lit(1, 599), 8);
        Check.due("17: no syllable", x.lit(4, 0), SungSlides.UNKNOWN);
        Check.due("17: no syllable", x.lit(-1, 600), SungSlides.UNKNOWN);
        Check.due("17: no syllable", x.lit(MOST, MOST), SungSlides.UNKNOWN);
        int[] wrong = {-1, 600, LEAST, MOST};
        for (int tick : wrong) {
            Check.due("17: out of range", x.lit(0, tick), SungSlides.OUT_OF_RANGE);
        }
    }

    private static void phrase() {
        SungSlides x = song();
        x.singAlong(0, 3, 0);
        // 100, (100 + a line at 16) * 11 / 10, 100 * 12 / 10, and 50 more
        int[][] due = {{0, 3, 3, 100 + 115 + 120 + 50, 3}, {3, 1, 1, 100, 1}};
        for (int p = 0; p < 2; p++) {
            for (int what = 0; what < 5; what++) {
                Check.due("18: phrase(" + p + ", " + what + ")", x.phrase(p, what), due[p][what]);
            }
        }
        x.silence(20, 10);
        Check.due("18: hits", x.phrase(0, 2), 2);
        Check.due("18: not all hit, no 50", x.phrase(0, 3), 215);
        Check.due("18: row", x.phrase(0, 4), 2);
        SungSlides two = Songs.made("9:2,9:2/9:2");
        two.sing(0, 2, 9);
        Check.due("18: one of two", two.phrase(0, 3), 100);
        two.sing(2, 2, 10);
        Check.due("18: two of two", two.phrase(0, 3), 100 + 110 + 50);
        two.sing(4, 2, 9);
        Check.due("18: one of one", two.phrase(1, 3), 100);
        x.silence(0, 600);
        Check.due("18: none hit", x.phrase(0, 2) + x.phrase(0, 3) + x.phrase(0, 4), 0);
        int[] none = {-1, 2, LEAST, MOST};
        for (int p : none) {
            Check.due("18: no phrase", x.phrase(p, 0), SungSlides.UNKNOWN);
            Check.due("18: UNKNOWN stands first", x.phrase(p, 5), SungSlides.UNKNOWN);
        }
        int[] wrong = {-1, 5, LEAST, MOST};
        for (int what : wrong) {
            Check.due("18: no such number", x.phrase(1, what), SungSlides.OUT_OF_RANGE);
        }
    }

    private static void total() {
        SungSlides x = song();
        x.type('a');
        x.type('b');
        x.sing(2, 4, 10);
        x.sing(30, 1, 5);
        int[] due = {16, 1, 2, 0, 50, 4, 2, 31, 5, 2, 2, 200, 485, 4, 2};
        for (int what = 0; what < due.length; what++) {
            Check.due("19: total(" + what + ")", x.total(what), due[what]);
        }
        int[] wrong = {-1, 15, LEAST, MOST};
        for (int what : wrong) {
            Check.due("19: out of range", x.total(what), SungSlides.OUT_OF_RANGE);
        }
        SungSlides y = new SungSlides();
        for (int i = 0; i < 12; i++) {
            y.add(0, 20, 20, 1, false);
        }
        Check.due("19: at best, the same pitch all along, rows up to 10", y.total(12), 50 + 10 * (10 + 11 + 12 + 13 + 14 + 15 + 16 + 17 + 18 + 19 + 20 + 20));
        y.set(4, 100);
        Check.due("19: at best, whatever SHARE is", y.total(12), 1900);
        y.set(0, 2);
        Check.due("19: no tick is held", y.total(12), 1900);
    }

    private static void ifShifted() {
        SungSlides x = song();
        x.singAlong(0, 1, 0);
        String before = Check.whole(x);
        Check.due("20: as it is", x.ifShifted(0, 0), 215);
        Check.due("20: higher by 1", x.ifShifted(0, 1), 215);
        Check.due("20: higher by 2", x.ifShifted(0, 2), 0);
        Check.due("20: lower by 1", x.ifShifted(0, -1), 215);
        // 3 of 4 and 7 of 8 match, both off by 1: 73, (87 + 5 - 2) * 11 / 10
        Check.due("20: later by 1", x.ifShifted(1, 0), 73 + 99);
        Check.due("20: earlier by 1", x.ifShifted(-1, 0), 73 + 99);
        // 2 of 4 and 6 of 8 match; at 16 and 15 it matches later, earlier it ends at 15
        Check.due("20: later by 2", x.ifShifted(2, 0), 46 + (75 + 5 - 4) * 11 / 10);
        Check.due("20: earlier by 2", x.ifShifted(-2, 0), 46 + (75 - 4) * 11 / 10);
        Check.due("20: later by 8, the first as the second but for the pitch", x.ifShifted(8, 0), 0);
        Check.due("20: later by 8, with the pitch", x.ifShifted(8, 10), 50);
        same("20: nothing changes", x, before);
        int[][] wrong = {{-33, 0}, {33, 0}, {0, -61}, {0, 61}, {LEAST, 0}, {MOST, 0}, {0, LEAST}, {0, MOST}};
        for (int[] w : wrong) {
            Check.due("20: out of range", x.ifShifted(w[0], w[1]), SungSlides.OUT_OF_RANGE);
        }
        Check.due("20: the furthest", x.ifShifted(32, 60) + x.ifShifted(-32, -60), 0);
        shiftedOut();
    }

    private static void shiftedOut() {
        SungSlides x = new SungSlides();
        x.add(0, 60, 60, 4, true);
        x.sing(0, 8, 59);
        Check.due("20: cut at the tick 0, where the onset is then", x.ifShifted(-4, 0), 100);
        Check.due("20: all cut", x.ifShifted(-8, 0), 0);
        Check.due("20: up to 60", x.ifShifted(0, 1), 100);
        Check.due("20: above 60 nothing is sung", x.ifShifted(0, 2), 0);
        x.set(3, 1);
        Check.due("20: an octave too high nothing is sung", x.ifShifted(0, 12), 0);
        Check.due("20: an octave below", x.ifShifted(0, -12), 100);
        x.sing(0, 8, 0);
        Check.due("20: 0 and five octaves", x.ifShifted(0, 0), 100);
        Check.due("20: below 0 nothing is sung", x.ifShifted(0, -1), 0);
    }

    private static void bestShift() {
        SungSlides x = new SungSlides();
        Check.due("21: without syllables", x.bestShift(), 32);
        x.add(32, 20, 20, 4, true);
        Check.due("21: nothing sung", x.bestShift(), 32);
        x.sing(0, 4, 20);
        String before = Check.whole(x);
        Check.due("21: the latest", x.bestShift(), 64);
        same("21: nothing changes", x, before);
        x.silence(0, 600);
        x.sing(64, 4, 20);
        Check.due("21: the earliest", x.bestShift(), 0);
        x.sing(0, 4, 20);
        Check.due("21: of two the one below 0", x.bestShift(), 0);
        x.sing(5, 4, 20);
        Check.due("21: of several the nearest to 0", x.bestShift(), 32 + 27);
        x.sing(32, 4, 21);
        Check.due("21: as it is", x.bestShift(), 32);
        x.silence(0, 600);
        x.sing(65, 4, 20);
        Check.due("21: nearly as early", x.bestShift(), 0);
        SungSlides y = Songs.made(".90:4");
        y.set(1, 0);
        y.sing(10, 4, 0);
        Check.due("21: by 1 earlier", y.bestShift(), 31);
        y.silence(0, 600);
        y.sing(8, 4, 0);
        Check.due("21: by 1 later", y.bestShift(), 33);
        y.sing(8, 4, 1);
        Check.due("21: pitches as they are", y.bestShift(), 32);
        y.sing(9, 1, 0);
        y.set(4, 1);
        Check.due("21: as they are, if one matches", y.bestShift(), 32);
        y.silence(0, 600);
        y.sing(9, 4, 1);
        y.sing(20, 4, 0);
        Check.due("21: by 11 earlier, as the pitch at 9 is another one", y.bestShift(), 21);
    }

    private static void ifSet() {
        SungSlides x = song();
        x.singAlong(0, 3, 1);
        String before = Check.whole(x);
        Check.due("22: as it is", x.ifSet(1, 1), 485);
        Check.due("22: tolerance 0", x.ifSet(1, 0), 0);
        Check.due("22: BAR", x.ifSet(0, 64), 480);
        Check.due("22: SHARE", x.ifSet(4, 100), 485);
        Check.due("22: octaves", x.ifSet(3, 1), 485);
        Check.due("22: window", x.ifSet(2, 0), 485);
        same("22: nothing changes", x, before);
        x.ifSet(1, 0);
        Check.due("22: nor later ones", x.ifSet(2, 8), 485);
        x.silence(2, 2);
        Check.due("22: window 2, off by 2", x.ifSet(4, 50), 46 + 115 + 120 + 50 + 100);
        Check.due("22: window 1", x.ifSet(2, 1), 105 + 110 + 100);
        Check.due("22: SHARE 51", x.ifSet(4, 51), 105 + 110 + 100);
        int[] low = {2, 0, 0, 0, 1};
        int[] high = {64, 6, 8, 1, 100};
        for (int i = 0; i < 5; i++) {
            Check.due("22: below", x.ifSet(i, low[i] - 1), SungSlides.OUT_OF_RANGE);
            Check.due("22: above", x.ifSet(i, high[i] + 1), SungSlides.OUT_OF_RANGE);
            Check.due("22: lowest", x.ifSet(i, low[i]) >= 0 ? 1 : 0, 1);
            Check.due("22: highest", x.ifSet(i, high[i]) >= 0 ? 1 : 0, 1);
        }
        Check.due("22: no setting", x.ifSet(-1, 2), SungSlides.UNKNOWN);
        Check.due("22: no setting", x.ifSet(5, LEAST), SungSlides.UNKNOWN);
        Check.due("22: no setting", x.ifSet(MOST, 2), SungSlides.UNKNOWN);
    }

    private static void worst() {
        SungSlides x = song();
        x.drop();
        x.drop();
        x.add(0, 5, 5, 2, true);
        x.add(0, 6, 6, 2, true);
        Check.due("23: of several the lowest", x.worst(), 0);
        x.singAlong(0, 1, 0);
        Check.due("23: of the others the lowest", x.worst(), 1);
        x.singAlong(2, 2, 0);
        Check.due("23: the last", x.worst(), 2);
        x.singAlong(3, 3, 0);
        Check.due("23: of two the lower one", x.worst(), 1);
        x.silence(20, 2);
        x.undo();
        Check.due("23: after undo", x.worst(), 1);
        x.silence(20, 1);
        Check.due("23: the fewest", x.worst(), 2);
        x.undo();
        x.ifSet(2, 0);
        Check.due("23: what would be leaves nothing behind", x.worst(), 1);
        x.silence(18, 1);
        Check.due("23: the fewest", x.worst(), 1);
        x.drop();
        x.drop();
        Check.due("23: the only one", x.worst(), 0);
        x.drop();
        x.drop();
        Check.due("23: without syllables", x.worst(), SungSlides.NONE);
    }

    private static void errorsChangeNothing() {
        SungSlides x = song();
        x.singAlong(1, 2, 0);
        x.set(3, 1);
        String before = Check.whole(x);
        x.add(33, 0, 0, 1, true);
        x.read();
        x.set(3, 1);
        x.set(3, 2);
        x.set(5, 2);
        x.sing(0, 65, 0);
        x.silence(0, 601);
        x.singAlong(0, 4, 0);
        x.singAlong(0, 3, 61);
        x.restore();
        x.syllable(9, 9);
        x.phrase(9, 9);
        x.total(99);
        x.ifShifted(99, 99);
        x.ifSet(9, 9);
        same("errors and NONE", x, before);
        Check.due("states of the history are not harmed", x.undo(), 3);
        Check.due("undone", x.total(3), 0);
    }
}
