/** Syllables that are lit as they are to be sung, a singer's pitches tick by tick, and the points that they bring. */
public final class SungSlides {
    public static final int UNKNOWN = -1;
    public static final int OUT_OF_RANGE = -2;
    public static final int FULL = -3;
    public static final int NONE = -5;

    private static final int MOST_SYLLABLES = 40;
    private static final int MOST_LENGTH = 32;
    private static final int MOST_REST = 32;
    private static final int MOST_TICKS = 600;
    private static final int LAST_TICK = 599;
    private static final int HIGHEST_PITCH = 60;
    private static final int MOST_SUNG_AT_ONCE = 64;
    private static final int MOST_CHARACTERS = 60;
    private static final int MOST_STATES = 4;
    private static final int MOST_SHIFT = 32;
    private static final int OCTAVE = 12;
    private static final int MOST_ROW = 10;
    private static final int LAST_OF_SYLLABLE = 11;
    private static final int LAST_OF_PHRASE = 4;
    private static final int LAST_OF_TOTAL = 14;
    private static final int FAULT_BASE = -100;

    /** What is sung at a tick at which nothing is sung. */
    private static final int SILENT = -1;
    /** What the reader of texts answers where no number stands. */
    private static final int NO_NUMBER = -1;

    private static final int BAR = 0;
    private static final int TOLERANCE = 1;
    private static final int WINDOW = 2;
    private static final int OCTAVES = 3;
    private static final int SHARE = 4;
    private static final int SETTINGS = 5;
    private static final int[] LOWEST_VALUES = {2, 0, 0, 0, 1};
    private static final int[] HIGHEST_VALUES = {64, 6, 8, 1, 100};
    private static final int[] FIRST_VALUES = {16, 1, 2, 0, 50};

    private static final int HIT = 0;
    private static final int NOTHING_SUNG = 1;
    private static final int NO_MATCH = 2;
    private static final int NO_ONSET = 3;
    private static final int SHARE_TOO_SMALL = 4;

    private final State now;
    /** A state to try things on, so that no call needs a new one. */
    private final State would;
    private final State snapshot;
    private boolean hasSnapshot;
    private final History history;
    private final Text text;
    private final Reader reader;
    private final Judge judge;

    public SungSlides() {
        now = new State();
        would = new State();
        snapshot = new State();
        hasSnapshot = false;
        history = new History();
        text = new Text();
        reader = new Reader();
        judge = new Judge();
    }

    // ---- the song

    public int add(int rest, int pitch, int endPitch, int length, boolean isFirst) {
        if (!isWithin(rest, 0, MOST_REST) || !isWithin(length, 1, MOST_LENGTH)) {
            return OUT_OF_RANGE;
        }
        if (!isWithin(pitch, 0, HIGHEST_PITCH) || !isWithin(endPitch, 0, HIGHEST_PITCH)) {
            return OUT_OF_RANGE;
        }
        if (!now.song.hasRoomFor(rest, length)) {
            return FULL;
        }
        history.record(now);
        return now.song.append(rest, pitch, endPitch, length, isFirst);
    }

    public int drop() {
        if (now.song.size() == 0) {
            return NONE;
        }
        history.record(now);
        return now.song.removeLast();
    }

    public int read() {
        Song song = would.song;
        reader.readInto(song, text);
        if (reader.hasFault) {
            return FAULT_BASE - reader.place;
        }
        if (reader.isTooLong) {
            return FULL;
        }
        history.record(now);
        now.song.copyFrom(song);
        return now.song.size();
    }

    public int set(int setting, int value) {
        if (!isSetting(setting)) {
            return UNKNOWN;
        }
        if (!isValueOf(setting, value)) {
            return OUT_OF_RANGE;
        }
        int previous = now.setting(setting);
        if (previous == value) {
            return NONE;
        }
        history.record(now);
        now.change(setting, value);
        return previous;
    }

    // ---- singing

    public int sing(int tick, int ticks, int pitch) {
        if (!areTicks(tick, ticks, MOST_SUNG_AT_ONCE) || !isWithin(pitch, 0, HIGHEST_PITCH)) {
            return OUT_OF_RANGE;
        }
        history.record(now);
        now.voice(tick, ticks, pitch);
        return hitsNow();
    }

    public int silence(int tick, int ticks) {
        if (!areTicks(tick, ticks, MOST_TICKS)) {
            return OUT_OF_RANGE;
        }
        history.record(now);
        int before = now.soundingTicks();
        now.voice(tick, ticks, SILENT);
        return before - now.soundingTicks();
    }

    public int singAlong(int first, int last, int by) {
        if (!now.song.has(first) || !now.song.has(last)) {
            return UNKNOWN;
        }
        if (last < first || !isWithin(by, -HIGHEST_PITCH, HIGHEST_PITCH)) {
            return OUT_OF_RANGE;
        }
        history.record(now);
        for (int i = first; i <= last; i++) {
            now.voiceAsWanted(i, by);
        }
        return hitsNow();
    }

    // ---- texts

    public int type(char character) {
        if (text.isFull()) {
            return FULL;
        }
        return text.append(character);
    }

    public int clearText() {
        return text.empty();
    }

    // ---- history

    public int undo() {
        if (history.size() == 0) {
            return NONE;
        }
        return history.takeBackInto(now);
    }

    public int keep() {
        snapshot.copyFrom(now);
        hasSnapshot = true;
        return now.song.size();
    }

    public int restore() {
        if (!hasSnapshot) {
            return NONE;
        }
        history.record(now);
        now.copyFrom(snapshot);
        return now.song.size();
    }

    // ---- what there is

    public int syllable(int syllable, int what) {
        if (!now.song.has(syllable)) {
            return UNKNOWN;
        }
        if (!isWithin(what, 0, LAST_OF_SYLLABLE)) {
            return OUT_OF_RANGE;
        }
        judge.judge(now);
        switch (what) {
            case 0: return now.song.beginningOf(syllable);
            case 1: return now.song.lengthOf(syllable);
            case 2: return now.song.pitchOf(syllable);
            case 3: return now.song.endPitchOf(syllable);
            case 4: return now.song.phraseOf(syllable);
            case 5: return now.song.barLinesOf(syllable, now.setting(BAR));
            case 6: return judge.matchesOf(syllable);
            case 7: return judge.shareOf(syllable);
            case 8: return judge.onsetOf(syllable);
            case 9: return judge.reasonOf(syllable);
            case 10: return judge.pointsOf(syllable);
            default: return judge.rowAheadOf(syllable);
        }
    }

    public int wanted(int tick) {
        if (!isWithin(tick, 0, LAST_TICK)) {
            return OUT_OF_RANGE;
        }
        Song song = now.song;
        for (int i = 0; i < song.size(); i++) {
            int number = tick - song.beginningOf(i);
            if (isWithin(number, 0, song.lengthOf(i) - 1)) {
                return song.wantedOf(i, number);
            }
        }
        return NONE;
    }

    public int sung(int tick) {
        if (!isWithin(tick, 0, LAST_TICK)) {
            return OUT_OF_RANGE;
        }
        int pitch = now.sungAt(tick);
        return pitch == SILENT ? NONE : pitch;
    }

    public int lit(int syllable, int tick) {
        if (!now.song.has(syllable)) {
            return UNKNOWN;
        }
        if (!isWithin(tick, 0, LAST_TICK)) {
            return OUT_OF_RANGE;
        }
        int begun = tick - now.song.beginningOf(syllable) + 1;
        return Math.max(0, Math.min(now.song.lengthOf(syllable), begun));
    }

    public int phrase(int phrase, int what) {
        if (!isWithin(phrase, 0, now.song.phraseCount() - 1)) {
            return UNKNOWN;
        }
        if (!isWithin(what, 0, LAST_OF_PHRASE)) {
            return OUT_OF_RANGE;
        }
        judge.judge(now);
        switch (what) {
            case 0: return now.song.firstOfPhrase(phrase);
            case 1: return now.song.sizeOfPhrase(phrase);
            case 2: return judge.phraseHitsOf(phrase);
            case 3: return judge.phrasePointsOf(phrase);
            default: return judge.longestRowOf(phrase);
        }
    }

    public int total(int what) {
        if (!isWithin(what, 0, LAST_OF_TOTAL)) {
            return OUT_OF_RANGE;
        }
        if (isSetting(what)) {
            return now.setting(what);
        }
        switch (what) {
            case 5: return now.song.size();
            case 6: return now.song.phraseCount();
            case 7: return now.song.ticks();
            case 8: return now.soundingTicks();
            case 9: return now.onsets();
            case 10: return hitsNow();
            case 11: return pointsOf(now);
            case 12: return mostPoints();
            case 13: return history.size();
            default: return text.size();
        }
    }

    // ---- what would be; nothing changes

    public int ifShifted(int ticks, int by) {
        if (!isWithin(ticks, -MOST_SHIFT, MOST_SHIFT) || !isWithin(by, -HIGHEST_PITCH, HIGHEST_PITCH)) {
            return OUT_OF_RANGE;
        }
        would.copyFrom(now);
        return pointsIfShifted(ticks, by);
    }

    public int bestShift() {
        would.copyFrom(now);
        int best = 0;
        int most = pointsIfShifted(0, 0);
        for (int distance = 1; distance <= MOST_SHIFT; distance++) {
            int earlier = pointsIfShifted(-distance, 0);
            if (earlier > most) {
                most = earlier;
                best = -distance;
            }
            int later = pointsIfShifted(distance, 0);
            if (later > most) {
                most = later;
                best = distance;
            }
        }
        return best + MOST_SHIFT;
    }

    public int ifSet(int setting, int value) {
        if (!isSetting(setting)) {
            return UNKNOWN;
        }
        if (!isValueOf(setting, value)) {
            return OUT_OF_RANGE;
        }
        would.copyFrom(now);
        would.change(setting, value);
        return pointsOf(would);
    }

    public int worst() {
        int phrases = now.song.phraseCount();
        if (phrases == 0) {
            return NONE;
        }
        judge.judge(now);
        int worst = 0;
        for (int i = 1; i < phrases; i++) {
            if (judge.phrasePointsOf(i) < judge.phrasePointsOf(worst)) {
                worst = i;
            }
        }
        return worst;
    }

    // ---- of use to several calls

    private static boolean isWithin(int value, int lowest, int highest) {
        return value >= lowest && value <= highest;
    }

    private static boolean isSetting(int setting) {
        return isWithin(setting, 0, SETTINGS - 1);
    }

    private static boolean isValueOf(int setting, int value) {
        return isSetting(setting) && isWithin(value, LOWEST_VALUES[setting], HIGHEST_VALUES[setting]);
    }

    private static boolean areTicks(int tick, int ticks, int mostTicks) {
        return isWithin(tick, 0, LAST_TICK) && isWithin(ticks, 1, mostTicks) && tick + ticks <= MOST_TICKS;
    }

    private int hitsNow() {
        judge.judge(now);
        return judge.hits;
    }

    private int pointsOf(State state) {
        judge.judge(state);
        return judge.points;
    }

    private int mostPoints() {
        judge.judgePerfect(now);
        return judge.points;
    }

    /** The scratch state must hold the song and the settings of now already. */
    private int pointsIfShifted(int ticks, int by) {
        would.voiceShifted(now, ticks, by);
        judge.judge(would);
        return judge.points;
    }

    /** The syllables, one behind the other. */
    private static final class Song {
        private final int[] beginnings = new int[MOST_SYLLABLES];
        private final int[] lengths = new int[MOST_SYLLABLES];
        private final int[] pitches = new int[MOST_SYLLABLES];
        private final int[] endPitches = new int[MOST_SYLLABLES];
        private final int[] phrases = new int[MOST_SYLLABLES];
        private int count = 0;

        int size() {
            return count;
        }

        /** Every index of the rows goes through this test. */
        boolean has(int syllable) {
            return syllable >= 0 && syllable < count && syllable < MOST_SYLLABLES;
        }

        int beginningOf(int syllable) {
            return has(syllable) ? beginnings[syllable] : 0;
        }

        int lengthOf(int syllable) {
            return has(syllable) ? lengths[syllable] : 0;
        }

        int pitchOf(int syllable) {
            return has(syllable) ? pitches[syllable] : 0;
        }

        int endPitchOf(int syllable) {
            return has(syllable) ? endPitches[syllable] : 0;
        }

        int phraseOf(int syllable) {
            return has(syllable) ? phrases[syllable] : NONE;
        }

        /** The tick behind the last one. */
        int ticks() {
            return beginningOf(count - 1) + lengthOf(count - 1);
        }

        int phraseCount() {
            return count == 0 ? 0 : phraseOf(count - 1) + 1;
        }

        int firstOfPhrase(int phrase) {
            for (int i = 0; i < count; i++) {
                if (phraseOf(i) == phrase) {
                    return i;
                }
            }
            return NONE;
        }

        int sizeOfPhrase(int phrase) {
            int size = 0;
            for (int i = 0; i < count; i++) {
                if (phraseOf(i) == phrase) {
                    size++;
                }
            }
            return size;
        }

        boolean beginsPhrase(int syllable) {
            return syllable == 0 || phraseOf(syllable) != phraseOf(syllable - 1);
        }

        /** Java's division rounds toward 0, as the wanted pitch does. */
        int wantedOf(int syllable, int number) {
            int steps = lengthOf(syllable) - 1;
            int pitch = pitchOf(syllable);
            if (steps < 1) {
                return pitch;
            }
            return pitch + (endPitchOf(syllable) - pitch) * number / steps;
        }

        /** The line at the beginning itself does not count, as the tick ahead of it is not the syllable's. */
        int barLinesOf(int syllable, int bar) {
            if (bar < 1) {
                return 0;
            }
            int beginning = beginningOf(syllable);
            int last = beginning + lengthOf(syllable) - 1;
            return last / bar - beginning / bar;
        }

        boolean hasRoomFor(int rest, int length) {
            return count < MOST_SYLLABLES && ticks() + rest + length <= MOST_TICKS;
        }

        int append(int rest, int pitch, int endPitch, int length, boolean isFirst) {
            if (count < 0 || count >= MOST_SYLLABLES) {
                return FULL;
            }
            int beginning = ticks() + rest;
            int phrase = count == 0 || isFirst ? phraseCount() : phraseCount() - 1;
            beginnings[count] = beginning;
            lengths[count] = length;
            pitches[count] = pitch;
            endPitches[count] = endPitch;
            phrases[count] = phrase;
            count++;
            return beginning;
        }

        int removeLast() {
            if (count > 0) {
                count--;
            }
            return count;
        }

        void clear() {
            count = 0;
        }

        void copyFrom(Song other) {
            System.arraycopy(other.beginnings, 0, beginnings, 0, MOST_SYLLABLES);
            System.arraycopy(other.lengths, 0, lengths, 0, MOST_SYLLABLES);
            System.arraycopy(other.pitches, 0, pitches, 0, MOST_SYLLABLES);
            System.arraycopy(other.endPitches, 0, endPitches, 0, MOST_SYLLABLES);
            System.arraycopy(other.phrases, 0, phrases, 0, MOST_SYLLABLES);
            count = other.count;
        }
    }

    /** All that the history and the snapshot hold: the song, the settings and what is sung. */
    private static final class State {
        final Song song = new Song();
        private final int[] settings = new int[SETTINGS];
        private final int[] pitches = new int[MOST_TICKS];

        State() {
            System.arraycopy(FIRST_VALUES, 0, settings, 0, SETTINGS);
            for (int i = 0; i < MOST_TICKS; i++) {
                pitches[i] = SILENT;
            }
        }

        void copyFrom(State other) {
            song.copyFrom(other.song);
            System.arraycopy(other.settings, 0, settings, 0, SETTINGS);
            System.arraycopy(other.pitches, 0, pitches, 0, MOST_TICKS);
        }

        int setting(int setting) {
            return setting >= 0 && setting < SETTINGS ? settings[setting] : 0;
        }

        void change(int setting, int value) {
            if (setting >= 0 && setting < SETTINGS) {
                settings[setting] = value;
            }
        }

        /** Nothing is sung ahead of the first tick and behind the last one. */
        int sungAt(int tick) {
            return tick >= 0 && tick < MOST_TICKS ? pitches[tick] : SILENT;
        }

        void voiceAt(int tick, int pitch) {
            if (tick >= 0 && tick < MOST_TICKS) {
                pitches[tick] = isWithin(pitch, 0, HIGHEST_PITCH) ? pitch : SILENT;
            }
        }

        void voice(int tick, int ticks, int pitch) {
            for (int i = 0; i < ticks; i++) {
                voiceAt(tick + i, pitch);
            }
        }

        void voiceAsWanted(int syllable, int by) {
            int beginning = song.beginningOf(syllable);
            for (int i = 0; i < song.lengthOf(syllable); i++) {
                voiceAt(beginning + i, song.wantedOf(syllable, i) + by);
            }
        }

        void voiceShifted(State other, int ticks, int by) {
            for (int i = 0; i < MOST_TICKS; i++) {
                int pitch = other.sungAt(i - ticks);
                voiceAt(i, pitch == SILENT ? SILENT : pitch + by);
            }
        }

        int soundingTicks() {
            int sounding = 0;
            for (int i = 0; i < MOST_TICKS; i++) {
                if (sungAt(i) != SILENT) {
                    sounding++;
                }
            }
            return sounding;
        }

        boolean isOnset(int tick) {
            return sungAt(tick) != SILENT && sungAt(tick) != sungAt(tick - 1);
        }

        int onsets() {
            int onsets = 0;
            for (int i = 0; i < MOST_TICKS; i++) {
                if (isOnset(i)) {
                    onsets++;
                }
            }
            return onsets;
        }

        /** The onset that is nearest to a tick, of two the earlier one; NONE without one in the window. */
        int onsetNear(int tick) {
            int window = setting(WINDOW);
            for (int distance = 0; distance <= window; distance++) {
                if (isOnset(tick - distance)) {
                    return tick - distance;
                }
                if (isOnset(tick + distance)) {
                    return tick + distance;
                }
            }
            return NONE;
        }

        boolean isMatch(int pitch, int wantedPitch) {
            if (pitch == SILENT) {
                return false;
            }
            int apart = Math.abs(pitch - wantedPitch);
            if (setting(OCTAVES) == 1) {
                int above = apart % OCTAVE;
                apart = Math.min(above, OCTAVE - above);
            }
            return apart <= setting(TOLERANCE);
        }
    }

    /** What the singing of a state is worth, by syllables and by phrases. */
    private static final class Judge {
        private final int[] matches = new int[MOST_SYLLABLES];
        private final int[] shares = new int[MOST_SYLLABLES];
        private final int[] heldLines = new int[MOST_SYLLABLES];
        private final int[] onsets = new int[MOST_SYLLABLES];
        private final int[] reasons = new int[MOST_SYLLABLES];
        private final int[] rowsAhead = new int[MOST_SYLLABLES];
        private final int[] syllablePoints = new int[MOST_SYLLABLES];
        private final int[] phraseHits = new int[MOST_SYLLABLES];
        private final int[] phrasePoints = new int[MOST_SYLLABLES];
        private final int[] longestRows = new int[MOST_SYLLABLES];
        int hits = 0;
        int points = 0;

        void judge(State state) {
            for (int i = 0; i < state.song.size(); i++) {
                hear(state, i);
            }
            score(state.song);
        }

        /** As if each syllable was sung as it is wanted, with its onset at its beginning. */
        void judgePerfect(State state) {
            Song song = state.song;
            for (int i = 0; i < song.size() && i < MOST_SYLLABLES; i++) {
                matches[i] = song.lengthOf(i);
                shares[i] = 100;
                heldLines[i] = song.barLinesOf(i, state.setting(BAR));
                onsets[i] = song.beginningOf(i);
                reasons[i] = HIT;
            }
            score(song);
        }

        private void hear(State state, int syllable) {
            if (!isWithin(syllable, 0, MOST_SYLLABLES - 1)) {
                return;
            }
            Song song = state.song;
            int length = song.lengthOf(syllable);
            int beginning = song.beginningOf(syllable);
            int bar = state.setting(BAR);
            int sounding = 0;
            int matching = 0;
            int held = 0;
            boolean matchesAhead = false;
            for (int i = 0; i < length; i++) {
                int pitch = state.sungAt(beginning + i);
                boolean isMatch = state.isMatch(pitch, song.wantedOf(syllable, i));
                sounding += pitch == SILENT ? 0 : 1;
                matching += isMatch ? 1 : 0;
                held += isMatch && matchesAhead && isBarLine(beginning + i, bar) ? 1 : 0;
                matchesAhead = isMatch;
            }
            matches[syllable] = matching;
            shares[syllable] = length < 1 ? 0 : matching * 100 / length;
            heldLines[syllable] = held;
            onsets[syllable] = state.onsetNear(beginning);
            reasons[syllable] = reasonFor(syllable, sounding, state.setting(SHARE));
        }

        private static boolean isBarLine(int tick, int bar) {
            return bar > 0 && tick > 0 && tick % bar == 0;
        }

        private int reasonFor(int syllable, int sounding, int neededShare) {
            if (sounding == 0) {
                return NOTHING_SUNG;
            }
            if (matchesOf(syllable) == 0) {
                return NO_MATCH;
            }
            if (onsetOf(syllable) == NONE) {
                return NO_ONSET;
            }
            return shareOf(syllable) < neededShare ? SHARE_TOO_SMALL : HIT;
        }

        private void score(Song song) {
            hits = 0;
            points = 0;
            int row = 0;
            for (int i = 0; i < song.size() && i < MOST_SYLLABLES; i++) {
                int phrase = song.phraseOf(i);
                if (!isWithin(phrase, 0, MOST_SYLLABLES - 1)) {
                    return;
                }
                if (song.beginsPhrase(i)) {
                    beginPhrase(phrase);
                    row = 0;
                }
                rowsAhead[i] = Math.min(row, MOST_ROW);
                syllablePoints[i] = scoreOf(song, i);
                phrasePoints[phrase] += syllablePoints[i];
                row = reasons[i] == HIT ? row + 1 : 0;
                phraseHits[phrase] += reasons[i] == HIT ? 1 : 0;
                longestRows[phrase] = Math.max(longestRows[phrase], row);
            }
            for (int i = 0; i < song.phraseCount() && i < MOST_SYLLABLES; i++) {
                phrasePoints[i] += extraOf(phraseHits[i], song.sizeOfPhrase(i));
                hits += phraseHits[i];
                points += phrasePoints[i];
            }
        }

        private void beginPhrase(int phrase) {
            if (isWithin(phrase, 0, MOST_SYLLABLES - 1)) {
                phraseHits[phrase] = 0;
                phrasePoints[phrase] = 0;
                longestRows[phrase] = 0;
            }
        }

        private int scoreOf(Song song, int syllable) {
            if (!isWithin(syllable, 0, MOST_SYLLABLES - 1) || reasons[syllable] != HIT) {
                return 0;
            }
            int off = Math.abs(onsets[syllable] - song.beginningOf(syllable));
            int together = shares[syllable] + 5 * heldLines[syllable] - 2 * off;
            return Math.max(0, together) * (10 + rowsAhead[syllable]) / 10;
        }

        private static int extraOf(int hitsInPhrase, int size) {
            return size >= 2 && hitsInPhrase == size ? 50 : 0;
        }

        private static int valueIn(int[] row, int index) {
            return index >= 0 && index < row.length ? row[index] : 0;
        }

        int matchesOf(int syllable) {
            return valueIn(matches, syllable);
        }

        int shareOf(int syllable) {
            return valueIn(shares, syllable);
        }

        int onsetOf(int syllable) {
            return valueIn(onsets, syllable);
        }

        int reasonOf(int syllable) {
            return valueIn(reasons, syllable);
        }

        int pointsOf(int syllable) {
            return valueIn(syllablePoints, syllable);
        }

        int rowAheadOf(int syllable) {
            return valueIn(rowsAhead, syllable);
        }

        int phraseHitsOf(int phrase) {
            return valueIn(phraseHits, phrase);
        }

        int phrasePointsOf(int phrase) {
            return valueIn(phrasePoints, phrase);
        }

        int longestRowOf(int phrase) {
            return valueIn(longestRows, phrase);
        }
    }

    /** The latest states, the oldest one first. */
    private static final class History {
        private final State[] states = new State[MOST_STATES];
        private int count = 0;

        History() {
            for (int i = 0; i < MOST_STATES; i++) {
                states[i] = new State();
            }
        }

        int size() {
            return count;
        }

        void record(State state) {
            if (count >= MOST_STATES) {
                dropOldest();
            }
            if (isWithin(count, 0, MOST_STATES - 1) && states[count] != null) {
                states[count].copyFrom(state);
                count++;
            }
        }

        /** The oldest object goes to the end, to be written over. */
        private void dropOldest() {
            State oldest = states[0];
            for (int i = 1; i < MOST_STATES; i++) {
                states[i - 1] = states[i];
            }
            states[MOST_STATES - 1] = oldest;
            count = MOST_STATES - 1;
        }

        int takeBackInto(State state) {
            if (isWithin(count, 1, MOST_STATES) && states[count - 1] != null) {
                count--;
                state.copyFrom(states[count]);
            }
            return count;
        }
    }

    /** The characters that were typed. */
    private static final class Text {
        private final char[] characters = new char[MOST_CHARACTERS];
        private int count = 0;

        int size() {
            return count;
        }

        boolean isFull() {
            return count >= MOST_CHARACTERS;
        }

        int append(char character) {
            if (isWithin(count, 0, MOST_CHARACTERS - 1)) {
                characters[count] = character;
                count++;
            }
            return count;
        }

        int empty() {
            int before = count;
            count = 0;
            return before;
        }

        /** Whether there is this character at the index. */
        boolean hasAt(int index, char character) {
            return isWithin(index, 0, count - 1) && index < MOST_CHARACTERS && characters[index] == character;
        }

        /** The digit at the index, or NO_NUMBER. */
        int digitAt(int index) {
            if (!isWithin(index, 0, count - 1) || index >= MOST_CHARACTERS) {
                return NO_NUMBER;
            }
            char character = characters[index];
            return character >= '0' && character <= '9' ? character - '0' : NO_NUMBER;
        }
    }

    /** Reads a song from left to right; where it can't go on is the fault, so the place needs no reckoning. */
    private static final class Reader {
        int place = 0;
        boolean hasFault = false;
        boolean isTooLong = false;

        void readInto(Song song, Text text) {
            song.clear();
            place = 0;
            isTooLong = false;
            hasFault = !readSyllable(song, text, true);
            for (int i = 1; i < MOST_CHARACTERS && !hasFault && place < text.size(); i++) {
                boolean isFirst = text.hasAt(place, '/');
                hasFault = !skip(text, isFirst ? '/' : ',') || !readSyllable(song, text, isFirst);
            }
        }

        private boolean readSyllable(Song song, Text text, boolean isFirst) {
            int rest = skip(text, '.') ? readNumber(text, 1, MOST_REST) : 0;
            if (rest == NO_NUMBER) {
                return false;
            }
            int pitch = readNumber(text, 0, HIGHEST_PITCH);
            if (pitch == NO_NUMBER) {
                return false;
            }
            int endPitch = skip(text, '-') ? readNumber(text, 0, HIGHEST_PITCH) : pitch;
            if (endPitch == NO_NUMBER || !skip(text, ':')) {
                return false;
            }
            int length = readNumber(text, 1, MOST_LENGTH);
            if (length == NO_NUMBER) {
                return false;
            }
            if (song.hasRoomFor(rest, length)) {
                song.append(rest, pitch, endPitch, length, isFirst);
            } else {
                isTooLong = true;
            }
            return true;
        }

        private boolean skip(Text text, char character) {
            if (!text.hasAt(place, character)) {
                return false;
            }
            place++;
            return true;
        }

        /** No number of a text is above 60, so none has more than two digits; none goes behind a 0. */
        private int readNumber(Text text, int lowest, int highest) {
            int number = text.digitAt(place);
            if (number < lowest) {
                return NO_NUMBER;
            }
            place++;
            int next = text.digitAt(place);
            if (number == 0 || next == NO_NUMBER || number * 10 + next > highest) {
                return number;
            }
            place++;
            return number * 10 + next;
        }
    }
}
