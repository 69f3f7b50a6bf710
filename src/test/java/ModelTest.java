import java.util.ArrayDeque;
import java.util.ArrayList;
import java.util.Deque;
import java.util.List;
import java.util.Map;
import java.util.Random;
import java.util.TreeMap;

/** Long runs of calls, each answer compared with that of a model which reckons all anew, and in other ways. */
public final class ModelTest {
    private static final int RUNS = 300;
    private static final int CALLS = 160;

    record Sound(int rest, int pitch, int endPitch, int length, boolean isFirst) { }

    /** What the history and the snapshot hold. */
    static final class Whole {
        List<Sound> sounds = new ArrayList<>();
        Map<Integer, Integer> sung = new TreeMap<>();
        int[] settings = {16, 1, 2, 0, 50};

        Whole copy() {
            Whole other = new Whole();
            other.sounds = new ArrayList<>(sounds);
            other.sung = new TreeMap<>(sung);
            other.settings = settings.clone();
            return other;
        }

        int begin(int i) {
            int tick = 0;
            for (int j = 0; j < i; j++) {
                tick += sounds.get(j).rest + sounds.get(j).length;
            }
            return tick + sounds.get(i).rest;
        }

        int end() {
            return sounds.isEmpty() ? 0 : begin(sounds.size() - 1) + sounds.get(sounds.size() - 1).length;
        }

        boolean opens(int i) {
            return i == 0 || sounds.get(i).isFirst;
        }

        int phraseOf(int i) {
            int phrase = -1;
            for (int j = 0; j <= i; j++) {
                phrase += opens(j) ? 1 : 0;
            }
            return phrase;
        }

        int phrases() {
            return sounds.isEmpty() ? 0 : phraseOf(sounds.size() - 1) + 1;
        }

        List<Integer> members(int phrase) {
            List<Integer> all = new ArrayList<>();
            for (int i = 0; i < sounds.size(); i++) {
                if (phraseOf(i) == phrase) {
                    all.add(i);
                }
            }
            return all;
        }

        int wanted(int i, int j) {
            Sound s = sounds.get(i);
            if (s.length == 1) {
                return s.pitch;
            }
            int slide = Math.abs(s.endPitch - s.pitch) * j;
            int whole = (slide - slide % (s.length - 1)) / (s.length - 1);
            return s.endPitch >= s.pitch ? s.pitch + whole : s.pitch - whole;
        }

        boolean matches(int i, int j) {
            Integer pitch = sung.get(begin(i) + j);
            if (pitch == null) {
                return false;
            }
            int octaves = settings[3] == 1 ? 6 : 0;
            for (int k = -octaves; k <= octaves; k++) {
                if (Math.abs(pitch - wanted(i, j) - 12 * k) <= settings[1]) {
                    return true;
                }
            }
            return false;
        }

        int matching(int i) {
            int all = 0;
            for (int j = 0; j < sounds.get(i).length; j++) {
                all += matches(i, j) ? 1 : 0;
            }
            return all;
        }

        int share(int i) {
            return 100 * matching(i) / sounds.get(i).length;
        }

        List<Integer> onsets() {
            List<Integer> all = new ArrayList<>();
            for (int tick : sung.keySet()) {
                if (!sung.get(tick).equals(sung.get(tick - 1))) {
                    all.add(tick);
                }
            }
            return all;
        }

        int onset(int i) {
            int best = -5;
            int least = settings[2] + 1;
            for (int tick : onsets()) {
                int off = Math.abs(tick - begin(i));
                if (off < least) {
                    least = off;
                    best = tick;
                }
            }
            return best;
        }

        int reason(int i) {
            boolean isSilent = true;
            for (int j = 0; j < sounds.get(i).length; j++) {
                isSilent &= !sung.containsKey(begin(i) + j);
            }
            if (isSilent) {
                return 1;
            }
            if (matching(i) == 0) {
                return 2;
            }
            if (onset(i) == -5) {
                return 3;
            }
            return share(i) >= settings[4] ? 0 : 4;
        }

        int bars(int i, boolean onlyMatching) {
            int all = 0;
            for (int line = settings[0]; line < 600; line += settings[0]) {
                int j = line - begin(i);
                if (j >= 1 && j < sounds.get(i).length) {
                    all += !onlyMatching || matches(i, j) && matches(i, j - 1) ? 1 : 0;
                }
            }
            return all;
        }

        int rowAhead(int i) {
            int row = 0;
            for (int j = i; !opens(j) && reason(j - 1) == 0; j--) {
                row++;
            }
            return Math.min(10, row);
        }

        int points(int i) {
            if (reason(i) != 0) {
                return 0;
            }
            int own = share(i) + 5 * bars(i, true) - 2 * Math.abs(onset(i) - begin(i));
            return Math.max(own, 0) * (10 + rowAhead(i)) / 10;
        }

        int hitsOf(int phrase) {
            int all = 0;
            for (int i : members(phrase)) {
                all += reason(i) == 0 ? 1 : 0;
            }
            return all;
        }

        int pointsOf(int phrase) {
            int all = 0;
            for (int i : members(phrase)) {
                all += points(i);
            }
            int size = members(phrase).size();
            return size > 1 && hitsOf(phrase) == size ? all + 50 : all;
        }

        int longest(int phrase) {
            int longest = 0;
            int row = 0;
            for (int i : members(phrase)) {
                row = reason(i) == 0 ? row + 1 : 0;
                longest = Math.max(longest, row);
            }
            return longest;
        }

        int hits() {
            int all = 0;
            for (int p = 0; p < phrases(); p++) {
                all += hitsOf(p);
            }
            return all;
        }

        int points() {
            int all = 0;
            for (int p = 0; p < phrases(); p++) {
                all += pointsOf(p);
            }
            return all;
        }

        int perfect() {
            int all = 0;
            for (int p = 0; p < phrases(); p++) {
                int place = 0;
                for (int i : members(p)) {
                    all += (100 + 5 * bars(i, false)) * (10 + Math.min(10, place)) / 10;
                    place++;
                }
                all += place > 1 ? 50 : 0;
            }
            return all;
        }

        Whole shifted(int ticks, int by) {
            Whole other = copy();
            other.sung.clear();
            for (Map.Entry<Integer, Integer> entry : sung.entrySet()) {
                int tick = entry.getKey() + ticks;
                int pitch = entry.getValue() + by;
                if (tick >= 0 && tick < 600 && pitch >= 0 && pitch <= 60) {
                    other.sung.put(tick, pitch);
                }
            }
            return other;
        }
    }

    /** Answers as the document says. */
    static final class Model {
        private static final int[] LOW = {2, 0, 0, 0, 1};
        private static final int[] HIGH = {64, 6, 8, 1, 100};
        Whole w = new Whole();
        Whole kept = null;
        Deque<Whole> history = new ArrayDeque<>();
        String text = "";

        private void record() {
            history.addLast(w.copy());
            if (history.size() == 5) {
                history.removeFirst();
            }
        }

        private static boolean in(int value, int low, int high) {
            return low <= value && value <= high;
        }

        int add(int rest, int pitch, int endPitch, int length, boolean isFirst) {
            if (!in(rest, 0, 32) || !in(pitch, 0, 60) || !in(endPitch, 0, 60) || !in(length, 1, 32)) {
                return -2;
            }
            if (w.sounds.size() == 40 || w.end() + rest + length - 1 > 599) {
                return -3;
            }
            record();
            w.sounds.add(new Sound(rest, pitch, endPitch, length, isFirst));
            return w.begin(w.sounds.size() - 1);
        }

        int drop() {
            if (w.sounds.isEmpty()) {
                return -5;
            }
            record();
            w.sounds.remove(w.sounds.size() - 1);
            return w.sounds.size();
        }

        /** Goes from sign to sign; the mode tells what is being read, the number is -1 ahead of its first digit. */
        int read() {
            List<Sound> all = new ArrayList<>();
            String mode = "begin";
            int number = -1;
            int rest = 0;
            int pitch = 0;
            int endPitch = 0;
            boolean isFirst = true;
            for (int i = 0; i <= text.length(); i++) {
                char c = i < text.length() ? text.charAt(i) : ' ';
                boolean isEnd = i == text.length();
                boolean isDigit = !isEnd && c >= '0' && c <= '9';
                if (mode.equals("begin") && !isEnd && c == '.') {
                    mode = "rest";
                    continue;
                }
                if (mode.equals("begin")) {
                    mode = "pitch";
                }
                int most = mode.equals("rest") || mode.equals("length") ? 32 : 60;
                int least = most == 32 ? 1 : 0;
                int next = isDigit ? (number < 0 ? c - '0' : number * 10 + c - '0') : -1;
                if (isDigit && number != 0 && next >= least && next <= most) {
                    number = next;
                    continue;
                }
                if (mode.equals("rest") && isDigit && number > 0) {
                    rest = number;
                    number = c - '0';
                    mode = "pitch";
                } else if (mode.equals("pitch") && number >= 0 && !isEnd && (c == '-' || c == ':')) {
                    pitch = number;
                    endPitch = number;
                    number = -1;
                    mode = c == '-' ? "end" : "length";
                } else if (mode.equals("end") && number >= 0 && !isEnd && c == ':') {
                    endPitch = number;
                    number = -1;
                    mode = "length";
                } else if (mode.equals("length") && number >= 0 && (isEnd || c == ',' || c == '/')) {
                    all.add(new Sound(rest, pitch, endPitch, number, isFirst));
                    isFirst = c == '/';
                    rest = 0;
                    number = -1;
                    mode = "begin";
                } else {
                    return -100 - i;
                }
            }
            record();
            w.sounds = all;
            return all.size();
        }

        private static int fault(int setting, int value) {
            return !in(setting, 0, 4) ? -1 : !in(value, LOW[setting], HIGH[setting]) ? -2 : 0;
        }

        int set(int setting, int value) {
            if (fault(setting, value) != 0) {
                return fault(setting, value);
            }
            int before = w.settings[setting];
            if (before == value) {
                return -5;
            }
            record();
            w.settings[setting] = value;
            return before;
        }

        int sing(int tick, int ticks, int pitch) {
            if (!in(tick, 0, 599) || !in(ticks, 1, 64) || tick + ticks > 600 || !in(pitch, 0, 60)) {
                return -2;
            }
            record();
            for (int i = tick; i < tick + ticks; i++) {
                w.sung.put(i, pitch);
            }
            return w.hits();
        }

        int silence(int tick, int ticks) {
            if (!in(tick, 0, 599) || !in(ticks, 1, 600) || tick + ticks > 600) {
                return -2;
            }
            record();
            int all = 0;
            for (int i = tick; i < tick + ticks; i++) {
                all += w.sung.remove(i) == null ? 0 : 1;
            }
            return all;
        }

        int singAlong(int first, int last, int by) {
            int count = w.sounds.size();
            if (!in(first, 0, count - 1) || !in(last, 0, count - 1)) {
                return -1;
            }
            if (last < first || !in(by, -60, 60)) {
                return -2;
            }
            record();
            for (int i = first; i <= last; i++) {
                for (int j = 0; j < w.sounds.get(i).length; j++) {
                    int pitch = w.wanted(i, j) + by;
                    w.sung.remove(w.begin(i) + j);
                    if (in(pitch, 0, 60)) {
                        w.sung.put(w.begin(i) + j, pitch);
                    }
                }
            }
            return w.hits();
        }

        int type(char c) {
            if (text.length() == 60) {
                return -3;
            }
            text += c;
            return text.length();
        }

        int clearText() {
            int before = text.length();
            text = "";
            return before;
        }

        int undo() {
            if (history.isEmpty()) {
                return -5;
            }
            w = history.removeLast();
            return history.size();
        }

        int keep() {
            kept = w.copy();
            return w.sounds.size();
        }

        int restore() {
            if (kept == null) {
                return -5;
            }
            record();
            w = kept.copy();
            return w.sounds.size();
        }

        int syllable(int i, int what) {
            if (!in(i, 0, w.sounds.size() - 1)) {
                return -1;
            }
            return switch (what) {
                case 0 -> w.begin(i);
                case 1 -> w.sounds.get(i).length;
                case 2 -> w.sounds.get(i).pitch;
                case 3 -> w.sounds.get(i).endPitch;
                case 4 -> w.phraseOf(i);
                case 5 -> w.bars(i, false);
                case 6 -> w.matching(i);
                case 7 -> w.share(i);
                case 8 -> w.onset(i);
                case 9 -> w.reason(i);
                case 10 -> w.points(i);
                case 11 -> w.rowAhead(i);
                default -> -2;
            };
        }

        int wanted(int tick) {
            if (!in(tick, 0, 599)) {
                return -2;
            }
            for (int i = 0; i < w.sounds.size(); i++) {
                for (int j = 0; j < w.sounds.get(i).length; j++) {
                    if (w.begin(i) + j == tick) {
                        return w.wanted(i, j);
                    }
                }
            }
            return -5;
        }

        int sung(int tick) {
            return in(tick, 0, 599) ? w.sung.getOrDefault(tick, -5) : -2;
        }

        int lit(int i, int tick) {
            if (!in(i, 0, w.sounds.size() - 1)) {
                return -1;
            }
            if (!in(tick, 0, 599)) {
                return -2;
            }
            int all = 0;
            for (int j = 0; j < w.sounds.get(i).length; j++) {
                all += w.begin(i) + j <= tick ? 1 : 0;
            }
            return all;
        }

        int phrase(int p, int what) {
            if (!in(p, 0, w.phrases() - 1)) {
                return -1;
            }
            return switch (what) {
                case 0 -> w.members(p).get(0);
                case 1 -> w.members(p).size();
                case 2 -> w.hitsOf(p);
                case 3 -> w.pointsOf(p);
                case 4 -> w.longest(p);
                default -> -2;
            };
        }

        int total(int what) {
            return switch (what) {
                case 0, 1, 2, 3, 4 -> w.settings[what];
                case 5 -> w.sounds.size();
                case 6 -> w.phrases();
                case 7 -> w.end();
                case 8 -> w.sung.size();
                case 9 -> w.onsets().size();
                case 10 -> w.hits();
                case 11 -> w.points();
                case 12 -> w.perfect();
                case 13 -> history.size();
                case 14 -> text.length();
                default -> -2;
            };
        }

        int ifShifted(int ticks, int by) {
            return in(ticks, -32, 32) && in(by, -60, 60) ? w.shifted(ticks, by).points() : -2;
        }

        int bestShift() {
            int best = -32;
            int most = -1;
            for (int ticks = -32; ticks <= 32; ticks++) {
                int points = w.shifted(ticks, 0).points();
                if (points > most || points == most && Math.abs(ticks) < Math.abs(best)) {
                    most = points;
                    best = ticks;
                }
            }
            return best + 32;
        }

        int ifSet(int setting, int value) {
            if (fault(setting, value) != 0) {
                return fault(setting, value);
            }
            Whole other = w.copy();
            other.settings[setting] = value;
            return other.points();
        }

        int worst() {
            int worst = -5;
            for (int p = w.phrases() - 1; p >= 0; p--) {
                if (worst < 0 || w.pointsOf(p) <= w.pointsOf(worst)) {
                    worst = p;
                }
            }
            return worst;
        }
    }

    private final Random random;
    private final SungSlides x = new SungSlides();
    private final Model m = new Model();
    private final int run;
    private int call = 0;

    private ModelTest(int run) {
        this.run = run;
        random = new Random(run);
    }

    private void same(String what, int got, int want) {
        Check.due("run " + run + " call " + call + " " + what, got, want);
    }

    /** Mostly in the range, at times at or beyond its ends. */
    private int some(int low, int high) {
        int dice = random.nextInt(60);
        if (dice == 0) {
            return low - 1;
        }
        if (dice == 1) {
            return high + 1;
        }
        if (dice == 2) {
            return random.nextBoolean() ? Integer.MIN_VALUE : Integer.MAX_VALUE;
        }
        if (dice < 7) {
            return dice < 5 ? low : high;
        }
        return low + random.nextInt(Math.max(1, high - low + 1));
    }

    private int someSyllable() {
        return some(0, m.w.sounds.size() - 1);
    }

    private int tickNearSyllable() {
        if (m.w.sounds.isEmpty() || random.nextInt(4) == 0) {
            return some(0, 599);
        }
        return m.w.begin(random.nextInt(m.w.sounds.size())) + random.nextInt(9) - 4;
    }

    private void oneCall() {
        call++;
        switch (random.nextInt(30)) {
            case 0, 1, 2, 3, 4, 5 -> addOne();
            case 6 -> same("drop", x.drop(), m.drop());
            case 7, 8 -> setOne();
            case 9, 10, 11, 12, 13 -> singOne();
            case 14, 15 -> silenceOne();
            case 16, 17, 18, 19 -> singAlongOne();
            case 20 -> readOne();
            case 21 -> same("undo", x.undo(), m.undo());
            case 22 -> same("keep", x.keep(), m.keep());
            case 23 -> same("restore", x.restore(), m.restore());
            case 24 -> litOne();
            case 25 -> ifShiftedOne();
            case 26 -> ifSetOne();
            case 27 -> askOne();
            case 28 -> same("worst", x.worst(), m.worst());
            default -> same("total 11", x.total(11), m.total(11));
        }
    }

    private void addOne() {
        int rest = random.nextInt(3) == 0 ? some(0, 32) : random.nextInt(3);
        int pitch = some(0, 60);
        int endPitch = random.nextBoolean() ? pitch : some(0, 60);
        int length = run % 3 == 0 ? 1 + random.nextInt(12) : some(1, 32);
        boolean isFirst = random.nextInt(run % 5 + 2) == 0;
        same("add(" + rest + ", " + pitch + ", " + endPitch + ", " + length + ", " + isFirst + ")",
            x.add(rest, pitch, endPitch, length, isFirst), m.add(rest, pitch, endPitch, length, isFirst));
    }

    private void setOne() {
        int setting = some(0, 4);
        int value = setting >= 0 && setting < 5 ? some(Model.LOW[setting], Model.HIGH[setting]) : 0;
        same("set(" + setting + ", " + value + ")", x.set(setting, value), m.set(setting, value));
    }

    private void singOne() {
        int tick = tickNearSyllable();
        int ticks = random.nextInt(3) == 0 ? some(1, 64) : 1 + random.nextInt(8);
        int wanted = m.wanted(tick);
        int pitch = wanted >= 0 && random.nextInt(3) > 0 ? wanted + random.nextInt(5) - 2 + 12 * (random.nextInt(3) - 1) : some(0, 60);
        same("sing(" + tick + ", " + ticks + ", " + pitch + ")", x.sing(tick, ticks, pitch), m.sing(tick, ticks, pitch));
    }

    private void silenceOne() {
        int tick = tickNearSyllable();
        int ticks = random.nextInt(6) == 0 ? some(1, 600) : 1 + random.nextInt(6);
        same("silence(" + tick + ", " + ticks + ")", x.silence(tick, ticks), m.silence(tick, ticks));
    }

    private void singAlongOne() {
        int first = random.nextInt(3) == 0 ? someSyllable() : 0;
        int last = random.nextInt(3) == 0 ? someSyllable() : m.w.sounds.size() - 1;
        int by = random.nextInt(4) == 0 ? some(-60, 60) : random.nextInt(3) - 1;
        same("singAlong(" + first + ", " + last + ", " + by + ")", x.singAlong(first, last, by), m.singAlong(first, last, by));
    }

    private void readOne() {
        if (random.nextInt(4) > 0) {
            same("clearText", x.clearText(), m.clearText());
        }
        String text = someText();
        for (int i = 0; i < text.length(); i++) {
            same("type", x.type(text.charAt(i)), m.type(text.charAt(i)));
        }
        same("read of " + m.text, x.read(), m.read());
    }

    private String someText() {
        StringBuilder text = new StringBuilder();
        for (int i = random.nextInt(8); i >= 0; i--) {
            text.append(random.nextInt(3) == 0 ? "." + (1 + random.nextInt(34)) : "").append(random.nextInt(62));
            text.append(random.nextInt(3) == 0 ? "-" + random.nextInt(62) : "").append(":").append(random.nextInt(34));
            text.append(i == 0 ? "" : random.nextBoolean() ? "," : "/");
        }
        String signs = "0123456789.-:,/ x\u0660\u0000\uffff";
        if (random.nextInt(2) == 0) {
            text.setCharAt(random.nextInt(text.length()), signs.charAt(random.nextInt(signs.length())));
        }
        if (random.nextInt(4) == 0) {
            text.setLength(random.nextInt(text.length() + 1));
        }
        return text.toString();
    }

    private void litOne() {
        int i = someSyllable();
        int tick = tickNearSyllable();
        same("lit(" + i + ", " + tick + ")", x.lit(i, tick), m.lit(i, tick));
    }

    private void ifShiftedOne() {
        int ticks = random.nextBoolean() ? some(-32, 32) : random.nextInt(5) - 2;
        int by = random.nextBoolean() ? some(-60, 60) : random.nextInt(5) - 2;
        same("ifShifted(" + ticks + ", " + by + ")", x.ifShifted(ticks, by), m.ifShifted(ticks, by));
    }

    private void ifSetOne() {
        int setting = some(0, 4);
        int value = setting >= 0 && setting < 5 ? some(Model.LOW[setting], Model.HIGH[setting]) : 0;
        same("ifSet(" + setting + ", " + value + ")", x.ifSet(setting, value), m.ifSet(setting, value));
    }

    private void askOne() {
        int i = someSyllable();
        int what = some(0, 11);
        same("syllable(" + i + ", " + what + ")", x.syllable(i, what), m.syllable(i, what));
        int p = some(0, m.w.phrases() - 1);
        int part = some(0, 4);
        same("phrase(" + p + ", " + part + ")", x.phrase(p, part), m.phrase(p, part));
        int number = some(0, 14);
        same("total(" + number + ")", x.total(number), m.total(number));
        int tick = some(0, 599);
        same("wanted(" + tick + ")", x.wanted(tick), m.wanted(tick));
        same("sung(" + tick + ")", x.sung(tick), m.sung(tick));
    }

    private void compareAll() {
        for (int what = 0; what <= 14; what++) {
            same("total(" + what + ")", x.total(what), m.total(what));
        }
        for (int i = 0; i < m.w.sounds.size(); i++) {
            for (int what = 0; what <= 11; what++) {
                same("syllable(" + i + ", " + what + ")", x.syllable(i, what), m.syllable(i, what));
            }
        }
        for (int p = 0; p < m.w.phrases(); p++) {
            for (int what = 0; what <= 4; what++) {
                same("phrase(" + p + ", " + what + ")", x.phrase(p, what), m.phrase(p, what));
            }
        }
        for (int tick = 0; tick <= 599; tick++) {
            same("sung(" + tick + ")", x.sung(tick), m.sung(tick));
        }
    }

    private void go() {
        while (call < CALLS && !Check.hasFailed()) {
            oneCall();
            if (call % 20 == 0) {
                compareAll();
            }
        }
        for (int tick = 0; tick <= 599; tick++) {
            same("wanted(" + tick + ")", x.wanted(tick), m.wanted(tick));
        }
        same("bestShift", x.bestShift(), m.bestShift());
    }

    public static void main(String[] args) {
        for (int run = 0; run < RUNS && !Check.hasFailed(); run++) {
            new ModelTest(run).go();
        }
        Check.end();
    }
}
