/**
 * Scores performed by a style. The words in capitals are those of the document (../shared/DOC.md).
 * All rows are made in constructors and used again: no call makes an object.
 */
public final class StyleRows {
    public static final int NONE = -1, UNKNOWN = -1001, OUTSIDE = -1002, STATE = -1003, ROOM = -1004;

    private static final int VOICES = 4;
    private static final int LAST_TICK = 20000;
    private static final int FIRST_FAULT = -10;

    private final long seed;
    private final Score score;
    private final Tape tape;
    private final Rules rules;
    private final Reader reader;
    private final Performer performer;
    private final Order order;
    private final Events events;

    public StyleRows(long seed) {
        this.seed = seed;
        score = new Score();
        tape = new Tape();
        rules = new Rules();
        reader = new Reader();
        performer = new Performer();
        order = new Order();
        events = new Events();
    }

    // ---- the score

    public int note(int voice, int start, int length, int pitch, int marks) {
        if (!isVoice(voice) || !isWithin(start, 0, 9600) || !isWithin(length, 1, 960)) {
            return OUTSIDE;
        }
        if (!isWithin(pitch, 12, 115) || !isWithin(marks, 0, Notes.ALL_MARKS)) {
            return OUTSIDE;
        }
        return score.notes.add(voice, start, length, pitch, marks);
    }

    public int mark(int note, int marks) {
        if (!score.notes.has(note)) {
            return UNKNOWN;
        }
        if (!isWithin(marks, 0, Notes.ALL_MARKS)) {
            return OUTSIDE;
        }
        return score.notes.changeMarks(note, marks);
    }

    public int level(int tick, int level, boolean swells) {
        if (!isTick(tick) || !isWithin(level, 1, 127)) {
            return OUTSIDE;
        }
        return score.levels.put(tick, level, swells);
    }

    public int meter(int beats, int unit) {
        if (!isWithin(beats, 1, 12) || !isWithin(unit, 1, 960)) {
            return OUTSIDE;
        }
        score.beat(beats, unit);
        return 1;
    }

    public int arc(int from, int to, int by) {
        if (!isTick(from) || !isTick(to) || from >= to || !isWithin(by, -400, 400)) {
            return OUTSIDE;
        }
        if (score.arcs.shareWith(from, to)) {
            return STATE;
        }
        return score.arcs.add(from, to, by);
    }

    public int levelAt(int tick) {
        return isTick(tick) ? score.levels.at(tick) : OUTSIDE;
    }

    public int timeOf(int tick) {
        return isTick(tick) ? score.arcs.bent(tick) : OUTSIDE;
    }

    // ---- the style

    public int feed(int n, long w) {
        return isWithin(n, 1, 8) ? tape.append(n, w) : OUTSIDE;
    }

    public int read() {
        int fault = reader.findFault(tape, rules);
        tape.clear();
        return fault == NONE ? rules.keepStaged() : FIRST_FAULT - fault;
    }

    public int plain() {
        return rules.clear();
    }

    public int rule(int rule, int what) {
        return rules.has(rule) && isWithin(what, 0, Rules.ROWS - 1) ? rules.rows[what][rule] : UNKNOWN;
    }

    public int value(int voice, int name) {
        return isVoice(voice) && Names.has(name) ? rules.numberFor(voice, name) : UNKNOWN;
    }

    public int why(int voice, int name) {
        return isVoice(voice) && Names.has(name) ? rules.countingFor(voice, name) : UNKNOWN;
    }

    // ---- the performance

    public int perform() {
        if (!performer.makeParts(score, rules, seed)) {
            return ROOM;
        }
        Events parts = performer.parts;
        parts.bend(score.arcs);
        order.sort(parts);
        events.takeInOrder(parts, order);
        events.endAtRepeats();
        return events.howMany;
    }

    public int event(int i, int what) {
        return events.has(i) && isWithin(what, 0, Events.ROWS - 1) ? events.rows[what][i] : UNKNOWN;
    }

    public int sounding(int time) {
        return events.soundingAt(time);
    }

    public int span(int note, int what) {
        if (!score.notes.has(note)) {
            return UNKNOWN;
        }
        switch (what) {
            case 0:
                return events.howManyOf(note);
            case 1:
                return events.firstBeginOf(note);
            case 2:
                return events.lastEndOf(note);
            default:
                return UNKNOWN;
        }
    }

    public int count(int what) {
        switch (what) {
            case 0:
                return score.notes.howMany;
            case 1:
                return score.levels.howMany;
            case 2:
                return score.arcs.howMany;
            case 3:
                return rules.howMany;
            case 4:
                return events.howMany;
            case 5:
                return tape.length;
            default:
                return UNKNOWN;
        }
    }

    private static boolean isWithin(int number, int least, int most) {
        return least <= number && number <= most;
    }

    private static boolean isTick(int tick) {
        return isWithin(tick, 0, LAST_TICK);
    }

    private static boolean isVoice(int voice) {
        return isWithin(voice, 0, VOICES - 1);
    }

    /** The quotient, downward. The divisors here are all above 0; the test keeps the machine from throwing. */
    private static int quotient(long above, long below) {
        return below <= 0 ? 0 : (int) Math.floorDiv(above, below);
    }

    private static final class Score {
        private final Notes notes = new Notes();
        private final Levels levels = new Levels();
        private final Arcs arcs = new Arcs();
        private int beats = 4;
        private int unit = 240;

        void beat(int newBeats, int newUnit) {
            beats = newBeats;
            unit = newUnit;
        }

        boolean beginsBar(int tick) {
            return isMultiple(tick, beats * unit);
        }

        boolean beginsBeat(int tick) {
            return isMultiple(tick, unit);
        }

        private static boolean isMultiple(int tick, int size) {
            return size > 0 && tick % size == 0;
        }
    }

    private static final class Notes {
        private static final int MOST = 48;
        private static final int SHORT = 1, HELD = 2, ACCENT = 4, TRILL = 8, TURN = 16, LEAN = 32, ROLL = 64;
        private static final int ALL_MARKS = 127;

        private final int[] voices = new int[MOST];
        private final int[] starts = new int[MOST];
        private final int[] lengths = new int[MOST];
        private final int[] pitches = new int[MOST];
        private final int[] marks = new int[MOST];
        private int howMany;

        boolean has(int note) {
            return isWithin(note, 0, howMany - 1);
        }

        int add(int voice, int start, int length, int pitch, int set) {
            if (howMany >= MOST) {
                return ROOM;
            }
            voices[howMany] = voice;
            starts[howMany] = start;
            lengths[howMany] = length;
            pitches[howMany] = pitch;
            marks[howMany] = set;
            howMany++;
            return howMany - 1;
        }

        int changeMarks(int note, int set) {
            int before = marks[note];
            marks[note] = set;
            return before;
        }

        /** How many NOTES of the rolled chord of this NOTE come ahead of it. */
        int rolledAhead(int note) {
            int ahead = 0;
            for (int other = 0; other < howMany; other++) {
                if (isInChord(other, note) && isLower(other, note)) {
                    ahead++;
                }
            }
            return ahead;
        }

        private boolean isInChord(int other, int note) {
            boolean rolled = (marks[other] & ROLL) != 0;
            return rolled && voices[other] == voices[note] && starts[other] == starts[note];
        }

        private boolean isLower(int other, int note) {
            return pitches[other] < pitches[note] || pitches[other] == pitches[note] && other < note;
        }
    }

    /** The LEVELS, in order of their ticks. */
    private static final class Levels {
        private static final int MOST = 12;
        private static final int AHEAD_OF_ALL = 64;

        private final int[] ticks = new int[MOST];
        private final int[] heights = new int[MOST];
        private final boolean[] swelling = new boolean[MOST];
        private int howMany;

        int put(int tick, int height, boolean swells) {
            int place = 0;
            while (place < howMany && ticks[place] < tick) {
                place++;
            }
            boolean isThere = place < howMany && ticks[place] == tick;
            if (!isThere && howMany >= MOST) {
                return ROOM;
            }
            if (!isThere) {
                moveUpFrom(place);
            }
            ticks[place] = tick;
            heights[place] = height;
            swelling[place] = swells;
            return howMany;
        }

        private void moveUpFrom(int place) {
            for (int i = howMany; i > place; i--) {
                ticks[i] = ticks[i - 1];
                heights[i] = heights[i - 1];
                swelling[i] = swelling[i - 1];
            }
            howMany++;
        }

        int at(int tick) {
            int next = 0;
            while (next < howMany && ticks[next] <= tick) {
                next++;
            }
            if (next == 0) {
                return AHEAD_OF_ALL;
            }
            int last = next - 1;
            if (next == howMany || !swelling[next]) {
                return heights[last];
            }
            long risen = (long) (heights[next] - heights[last]) * (tick - ticks[last]);
            return heights[last] + quotient(risen, ticks[next] - ticks[last]);
        }
    }

    private static final class Arcs {
        private static final int MOST = 6;

        private final int[] froms = new int[MOST];
        private final int[] tos = new int[MOST];
        private final int[] bys = new int[MOST];
        private int howMany;

        boolean shareWith(int from, int to) {
            for (int i = 0; i < howMany; i++) {
                if (Math.max(froms[i], from) < Math.min(tos[i], to)) {
                    return true;
                }
            }
            return false;
        }

        int add(int from, int to, int by) {
            if (howMany >= MOST) {
                return ROOM;
            }
            froms[howMany] = from;
            tos[howMany] = to;
            bys[howMany] = by;
            howMany++;
            return howMany;
        }

        /** TIME of a tick. At an end of an ARC it is the tick itself, so ARCS that share an end agree there. */
        int bent(int tick) {
            for (int i = 0; i < howMany; i++) {
                if (isWithin(tick, froms[i], tos[i])) {
                    long size = tos[i] - froms[i];
                    return tick + quotient(4L * bys[i] * (tick - froms[i]) * (tos[i] - tick), size * size);
                }
            }
            return tick;
        }
    }

    private static final class Tape {
        private static final int MOST = 400;

        private final byte[] bytes = new byte[MOST];
        private int length;

        int append(int n, long w) {
            if (n > MOST - length) {
                return ROOM;
            }
            for (int i = n - 1; i >= 0; i--) {
                bytes[length] = (byte) (w >>> (8 * i));
                length++;
            }
            return length;
        }

        void clear() {
            length = 0;
        }

        /** The byte at a place, 0 .. 255; NONE where there is none. */
        int at(int place) {
            return 0 <= place && place < length ? bytes[place] & 255 : NONE;
        }
    }

    /** The NAMES of STYLE: their words, their numbers without a RULE, their bounds. */
    private static final class Names {
        private static final int SHORT = 0, PLAIN = 1, HELD = 2, LEAST = 3, ACCENT = 4, FIRST = 5, BEAT = 6;
        private static final int TRILL = 7, UPPER = 8, TURN = 9, LEAN = 10, ROLL = 11, LOOSE = 12;
        private static final int HOW_MANY = 13;

        private static final int[] WITHOUT = {50, 90, 100, 10, 16, 8, 4, 30, 0, 20, 40, 12, 0};
        private static final int[] FROM = {1, 1, 1, 1, 0, 0, 0, 1, 0, 1, 0, 0, 0};
        private static final int[] TO = {100, 100, 100, 960, 127, 127, 127, 960, 1, 960, 960, 960, 99};

        static boolean has(int name) {
            return isWithin(name, 0, HOW_MANY - 1);
        }

        static String wordOf(int name) {
            switch (name) {
                case SHORT:
                    return "short";
                case PLAIN:
                    return "plain";
                case HELD:
                    return "held";
                case LEAST:
                    return "least";
                case ACCENT:
                    return "accent";
                case FIRST:
                    return "first";
                case BEAT:
                    return "beat";
                case TRILL:
                    return "trill";
                case UPPER:
                    return "upper";
                case TURN:
                    return "turn";
                case LEAN:
                    return "lean";
                case ROLL:
                    return "roll";
                case LOOSE:
                    return "loose";
                default:
                    return "";
            }
        }
    }

    /** The RULES; behind them, in the same rows, those of a TEXT that may still have a FAULT (the staged ones). */
    private static final class Rules {
        private static final int MOST = 24;
        private static final int VOICE = 0, NAME = 1, NUMBER = 2, RANK = 3, ROWS = 4;

        private final int[][] rows = new int[ROWS][MOST];
        /** For each VOICE and NAME the RULE that counts. */
        private final int[] counting = new int[VOICES * Names.HOW_MANY];
        private int howMany;
        private int withStaged;

        Rules() {
            clear();
        }

        int clear() {
            int before = howMany;
            howMany = 0;
            withStaged = 0;
            for (int i = 0; i < counting.length; i++) {
                counting[i] = NONE;
            }
            return before;
        }

        boolean has(int rule) {
            return isWithin(rule, 0, howMany - 1);
        }

        int countingFor(int voice, int name) {
            return counting[voice * Names.HOW_MANY + name];
        }

        int numberFor(int voice, int name) {
            int rule = countingFor(voice, name);
            return rule == NONE ? Names.WITHOUT[name] : rows[NUMBER][rule];
        }

        void dropStaged() {
            withStaged = howMany;
        }

        boolean areFull() {
            return withStaged >= MOST;
        }

        void stage(int voice, int name, int number, int rank) {
            if (areFull()) {
                return;
            }
            rows[VOICE][withStaged] = voice;
            rows[NAME][withStaged] = name;
            rows[NUMBER][withStaged] = number;
            rows[RANK][withStaged] = rank;
            withStaged++;
        }

        int keepStaged() {
            for (int rule = howMany; rule < withStaged; rule++) {
                letCount(rule);
            }
            howMany = withStaged;
            return howMany;
        }

        private void letCount(int rule) {
            for (int voice = 0; voice < VOICES; voice++) {
                int own = rows[VOICE][rule];
                int place = voice * Names.HOW_MANY + rows[NAME][rule];
                if ((own == NONE || own == voice) && isOutrankedBy(counting[place], rule)) {
                    counting[place] = rule;
                }
            }
        }

        private boolean isOutrankedBy(int earlier, int rule) {
            return earlier == NONE || rows[RANK][earlier] <= rows[RANK][rule];
        }
    }

    /** Reads a TEXT piece by piece: words, NUMBERS and single bytes. */
    private static final class Reader {
        private static final int END = 0, BLANK = 1, WORD = 2, NUMBER = 3, OTHER = 4;
        /** Above all bounds: a longer NUMBER stays there. */
        private static final int TOO_GREAT = 1000000;

        private int from;
        private int to;
        private int kind;
        private int number;

        /** Stages the RULES of the TEXT; answers the place of its FAULT, or NONE. */
        int findFault(Tape tape, Rules rules) {
            rules.dropStaged();
            to = 0;
            takePiece(tape);
            for (int turn = 0; turn <= Rules.MOST; turn++) {
                if (kind == END) {
                    return NONE;
                }
                if (!takeRule(tape, rules)) {
                    return from;
                }
            }
            return from;
        }

        /** If this answers false, the piece that stands now is the one that can not stand there. */
        private boolean takeRule(Tape tape, Rules rules) {
            int voice = NONE;
            int rank = 0;
            if (rules.areFull()) {
                return false;
            }
            if (isWord(tape, "voice")) {
                takePiece(tape);
                if (!takeNumber(tape, 0, VOICES - 1)) {
                    return false;
                }
                voice = number;
            }
            int name = nameThere(tape);
            if (name == NONE) {
                return false;
            }
            takePiece(tape);
            if (!takeNumber(tape, Names.FROM[name], Names.TO[name])) {
                return false;
            }
            int own = number;
            if (isWord(tape, "rank")) {
                takePiece(tape);
                if (!takeNumber(tape, 0, 9)) {
                    return false;
                }
                rank = number;
            }
            if (tape.at(from) != ';') {
                return false;
            }
            takePiece(tape);
            rules.stage(voice, name, own, rank);
            return true;
        }

        private boolean takeNumber(Tape tape, int least, int most) {
            if (kind != NUMBER) {
                return false;
            }
            number = 0;
            for (int i = from; i < to; i++) {
                number = Math.min(TOO_GREAT, number * 10 + tape.at(i) - '0');
            }
            if (!isWithin(number, least, most)) {
                return false;
            }
            takePiece(tape);
            return true;
        }

        private int nameThere(Tape tape) {
            for (int name = 0; name < Names.HOW_MANY; name++) {
                if (isWord(tape, Names.wordOf(name))) {
                    return name;
                }
            }
            return NONE;
        }

        private boolean isWord(Tape tape, String word) {
            if (kind != WORD || to - from != word.length()) {
                return false;
            }
            for (int i = 0; i < word.length(); i++) {
                if (tape.at(from + i) != word.charAt(i)) {
                    return false;
                }
            }
            return true;
        }

        private void takePiece(Tape tape) {
            from = to;
            while (from < tape.length && kindAt(tape, from) == BLANK) {
                from++;
            }
            kind = kindAt(tape, from);
            to = kind == END ? from : from + 1;
            if (kind != WORD && kind != NUMBER) {
                return;
            }
            while (to < tape.length && kindAt(tape, to) == kind) {
                to++;
            }
        }

        private static int kindAt(Tape tape, int place) {
            int sign = tape.at(place);
            if (sign == NONE) {
                return END;
            }
            if (sign == 32 || sign == 10) {
                return BLANK;
            }
            if (isWithin(sign, 'a', 'z')) {
                return WORD;
            }
            return isWithin(sign, '0', '9') ? NUMBER : OTHER;
        }
    }

    /** Makes the parts of NOTES, one NOTE after the other. */
    private static final class Performer {
        private static final int WHOLE = 0, LEANING = 1, TRILLED = 2, TURNED = 3;
        private static final int STEP = 2;

        /** Their BEGIN is an ON and their LENGTH one in ticks, until they are bent. */
        private final Events parts = new Events();
        private int note;
        private int voice;
        private int pitch;
        private int marks;
        private int loud;
        /** ON, and what is left of LONG. */
        private int on;
        private int left;

        /** Answers whether there is room for them. */
        boolean makeParts(Score score, Rules rules, long seed) {
            parts.clear();
            for (int i = 0; i < score.notes.howMany && !parts.tooMany; i++) {
                takeNote(score.notes, i);
                left = longOf(score.notes.lengths[i], rules);
                loud = loudOf(score, score.notes.starts[i], rules);
                on = onOf(score.notes.starts[i], rules, seed);
                addParts(score.notes, rules);
            }
            return !parts.tooMany;
        }

        private void takeNote(Notes notes, int i) {
            note = i;
            voice = notes.voices[i];
            pitch = notes.pitches[i];
            marks = notes.marks[i];
        }

        private boolean isMarked(int mark) {
            return (marks & mark) != 0;
        }

        private int longOf(int length, Rules rules) {
            int name = isMarked(Notes.SHORT) ? Names.SHORT : isMarked(Notes.HELD) ? Names.HELD : Names.PLAIN;
            int share = rules.numberFor(voice, name);
            int least = Math.min(rules.numberFor(voice, Names.LEAST), length);
            return Math.max(least, length * share / 100);
        }

        private int loudOf(Score score, int start, Rules rules) {
            int sum = score.levels.at(start);
            if (isMarked(Notes.ACCENT)) {
                sum += rules.numberFor(voice, Names.ACCENT);
            }
            if (score.beginsBar(start)) {
                sum += rules.numberFor(voice, Names.FIRST);
            } else if (score.beginsBeat(start)) {
                sum += rules.numberFor(voice, Names.BEAT);
            }
            return Math.max(1, Math.min(127, sum));
        }

        private int onOf(int start, Rules rules, long seed) {
            int loose = rules.numberFor(voice, Names.LOOSE);
            return loose > 0 ? Math.max(0, start + drawOf(loose, seed)) : start;
        }

        /** The NOTE's own draw, -n .. n. */
        private int drawOf(int n, long seed) {
            long z = seed + (note + 1L) * 0x9E3779B97F4A7C15L;
            z = (z ^ (z >>> 30)) * 0xBF58476D1CE4E5B9L;
            z = z ^ (z >>> 27);
            return (int) Math.floorMod(z >>> 33, 2L * Math.max(0, n) + 1) - n;
        }

        private void addParts(Notes notes, Rules rules) {
            if (isMarked(Notes.ROLL)) {
                roll(notes, rules);
            }
            if (isMarked(Notes.LEAN)) {
                addLean(rules);
            }
            if (isMarked(Notes.TRILL) && addTrill(rules)) {
                return;
            }
            if (isMarked(Notes.TURN) && addTurn(rules)) {
                return;
            }
            addPart(WHOLE, pitch, loud, left);
        }

        private void roll(Notes notes, Rules rules) {
            int later = Math.min(notes.rolledAhead(note) * rules.numberFor(voice, Names.ROLL), left - 1);
            on += later;
            left -= later;
        }

        private void addLean(Rules rules) {
            int length = Math.min(rules.numberFor(voice, Names.LEAN), left / 2);
            if (length > 0) {
                addPart(LEANING, pitch + STEP, Math.max(1, loud * 3 / 4), length);
            }
        }

        private boolean addTrill(Rules rules) {
            int each = rules.numberFor(voice, Names.TRILL);
            int beats = quotient(left, each);
            if (beats < 2) {
                return false;
            }
            boolean upper = rules.numberFor(voice, Names.UPPER) == 1;
            boolean endsUpper = (beats % 2 == 1) == upper;
            if (endsUpper) {
                beats--;
            }
            for (int i = 1; i < beats; i++) {
                addPart(TRILLED, upper ? pitch + STEP : pitch, loud, each);
                upper = !upper;
            }
            addPart(TRILLED, pitch, loud, left);
            return true;
        }

        private boolean addTurn(Rules rules) {
            if (left < 3) {
                return false;
            }
            int length = Math.min(rules.numberFor(voice, Names.TURN), left / 3);
            addPart(TURNED, pitch, loud, length);
            addPart(TURNED, pitch - STEP, loud, length);
            addPart(TURNED, pitch, loud, left);
            return true;
        }

        private void addPart(int kind, int partPitch, int partLoud, int length) {
            parts.add(on, length, partPitch, partLoud, note, kind, voice);
            on += length;
            left -= length;
        }
    }

    /** EVENTS in rows that are numbered as the document numbers what is asked of an EVENT. */
    private static final class Events {
        private static final int MOST = 400;
        private static final int BEGIN = 0, LENGTH = 1, PITCH = 2, LOUD = 3, NOTE = 4, KIND = 5, VOICE = 6, ROWS = 7;

        private final int[][] rows = new int[ROWS][MOST];
        private int howMany;
        private boolean tooMany;

        void clear() {
            howMany = 0;
            tooMany = false;
        }

        void add(int begin, int length, int pitch, int loud, int note, int kind, int voice) {
            if (howMany >= MOST) {
                tooMany = true;
                return;
            }
            rows[BEGIN][howMany] = begin;
            rows[LENGTH][howMany] = length;
            rows[PITCH][howMany] = pitch;
            rows[LOUD][howMany] = loud;
            rows[NOTE][howMany] = note;
            rows[KIND][howMany] = kind;
            rows[VOICE][howMany] = voice;
            howMany++;
        }

        boolean has(int i) {
            return isWithin(i, 0, howMany - 1);
        }

        /** From ticks to TIMES. */
        void bend(Arcs arcs) {
            for (int i = 0; i < howMany; i++) {
                int begin = arcs.bent(rows[BEGIN][i]);
                int end = arcs.bent(rows[BEGIN][i] + rows[LENGTH][i]);
                rows[BEGIN][i] = begin;
                rows[LENGTH][i] = Math.max(1, end - begin);
            }
        }

        void takeInOrder(Events parts, Order order) {
            howMany = parts.howMany;
            for (int i = 0; i < howMany; i++) {
                int part = order.partAt(i);
                for (int row = 0; row < ROWS; row++) {
                    rows[row][i] = parts.rows[row][part];
                }
            }
        }

        void endAtRepeats() {
            for (int i = 0; i < howMany; i++) {
                endAtRepeat(i);
            }
        }

        private void endAtRepeat(int i) {
            int end = endOf(i);
            for (int other = i + 1; other < howMany && rows[BEGIN][other] < end; other++) {
                if (repeats(other, i)) {
                    rows[LENGTH][i] = rows[BEGIN][other] - rows[BEGIN][i];
                    return;
                }
            }
        }

        private boolean repeats(int other, int i) {
            boolean isAlike = rows[VOICE][other] == rows[VOICE][i] && rows[PITCH][other] == rows[PITCH][i];
            return isAlike && rows[BEGIN][other] > rows[BEGIN][i];
        }

        private int endOf(int i) {
            return rows[BEGIN][i] + rows[LENGTH][i];
        }

        int soundingAt(int time) {
            int sounding = 0;
            for (int i = 0; i < howMany; i++) {
                if (rows[BEGIN][i] <= time && endOf(i) > time) {
                    sounding++;
                }
            }
            return sounding;
        }

        int howManyOf(int note) {
            int found = 0;
            for (int i = 0; i < howMany; i++) {
                if (rows[NOTE][i] == note) {
                    found++;
                }
            }
            return found;
        }

        int firstBeginOf(int note) {
            for (int i = 0; i < howMany; i++) {
                if (rows[NOTE][i] == note) {
                    return rows[BEGIN][i];
                }
            }
            return NONE;
        }

        /** All are looked at: where TIME runs back, the one that ends last need not be the last in order. */
        int lastEndOf(int note) {
            boolean isFound = false;
            int last = NONE;
            for (int i = 0; i < howMany; i++) {
                if (rows[NOTE][i] == note && (!isFound || endOf(i) > last)) {
                    last = endOf(i);
                    isFound = true;
                }
            }
            return last;
        }
    }

    /** The order of EVENTS, by keys that are sorted by merging. */
    private static final class Order {
        private static final int PITCHES = 128;

        private long[] keys = new long[Events.MOST];
        private long[] spare = new long[Events.MOST];

        void sort(Events parts) {
            int howMany = parts.howMany;
            for (int i = 0; i < howMany; i++) {
                keys[i] = keyOf(parts, i);
            }
            for (int run = 1; run < howMany; run *= 2) {
                for (int from = 0; from < howMany; from += 2 * run) {
                    merge(from, Math.min(from + run, howMany), Math.min(from + 2 * run, howMany));
                }
                long[] merged = spare;
                spare = keys;
                keys = merged;
            }
        }

        /** Parts are made NOTE by NOTE: their own number stands for the NOTE and for how they came. */
        private static long keyOf(Events parts, int i) {
            long key = parts.rows[Events.BEGIN][i];
            key = key * VOICES + parts.rows[Events.VOICE][i];
            key = key * PITCHES + parts.rows[Events.PITCH][i];
            return key * Events.MOST + i;
        }

        private void merge(int from, int middle, int to) {
            int left = from;
            int right = middle;
            for (int i = from; i < to; i++) {
                if (left < middle && (right >= to || keys[left] < keys[right])) {
                    spare[i] = keys[left];
                    left++;
                } else {
                    spare[i] = keys[right];
                    right++;
                }
            }
        }

        /** Floored, for a key is below 0 where an ARC draws a TIME below 0. */
        int partAt(int i) {
            return Math.floorMod(keys[i], Events.MOST);
        }
    }
}
