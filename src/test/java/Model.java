import java.util.ArrayList;
import java.util.Comparator;
import java.util.List;
import java.util.TreeMap;
import java.util.regex.Matcher;
import java.util.regex.Pattern;

/** The document once more, told with the Java library and without thrift: what StyleRows is compared with. */
final class Model {
    static final int NONE = -1, UNKNOWN = -1001, OUTSIDE = -1002, STATE = -1003, ROOM = -1004;
    private static final List<String> NAMES = List.of("short", "plain", "held", "least", "accent", "first", "beat",
        "trill", "upper", "turn", "lean", "roll", "loose");
    private static final int[][] BOUNDS = {
        {50, 1, 100}, {90, 1, 100}, {100, 1, 100}, {10, 1, 960}, {16, 0, 127}, {8, 0, 127}, {4, 0, 127},
        {30, 1, 960}, {0, 0, 1}, {20, 1, 960}, {40, 0, 960}, {12, 0, 960}, {0, 0, 99}
    };
    private static final Pattern PIECE = Pattern.compile("[ \n]*([a-z]+|[0-9]+|[^ \n])", Pattern.DOTALL);

    record Level(int height, boolean swells) { }
    record Arc(int from, int to, int by) { }
    record Rule(int voice, int name, int number, int rank) { }
    record Part(int on, int end, int pitch, int loud, int note, int kind) { }
    record Event(int begin, int end, int pitch, int loud, int note, int kind, int voice) { }

    private final long seed;
    private final List<int[]> notes = new ArrayList<>();
    private final TreeMap<Integer, Level> levels = new TreeMap<>();
    private final List<Arc> arcs = new ArrayList<>();
    private final List<Rule> rules = new ArrayList<>();
    private final StringBuilder tape = new StringBuilder();
    private List<Event> events = new ArrayList<>();
    private int beats = 4;
    private int unit = 240;

    Model(long seed) {
        this.seed = seed;
    }

    private static boolean in(int x, int a, int b) {
        return x >= a && x <= b;
    }

    int note(int voice, int start, int length, int pitch, int marks) {
        if (!in(voice, 0, 3) || !in(start, 0, 9600) || !in(length, 1, 960) || !in(pitch, 12, 115) || !in(marks, 0, 127)) {
            return OUTSIDE;
        }
        if (notes.size() == 48) {
            return ROOM;
        }
        notes.add(new int[] {voice, start, length, pitch, marks});
        return notes.size() - 1;
    }

    int mark(int note, int marks) {
        if (!in(note, 0, notes.size() - 1)) {
            return UNKNOWN;
        }
        if (!in(marks, 0, 127)) {
            return OUTSIDE;
        }
        int before = notes.get(note)[4];
        notes.get(note)[4] = marks;
        return before;
    }

    int level(int tick, int level, boolean swells) {
        if (!in(tick, 0, 20000) || !in(level, 1, 127)) {
            return OUTSIDE;
        }
        if (!levels.containsKey(tick) && levels.size() == 12) {
            return ROOM;
        }
        levels.put(tick, new Level(level, swells));
        return levels.size();
    }

    int meter(int beats, int unit) {
        if (!in(beats, 1, 12) || !in(unit, 1, 960)) {
            return OUTSIDE;
        }
        this.beats = beats;
        this.unit = unit;
        return 1;
    }

    int arc(int from, int to, int by) {
        if (from < 0 || to > 20000 || from >= to || !in(by, -400, 400)) {
            return OUTSIDE;
        }
        for (Arc other : arcs) {
            if (!(to <= other.from || from >= other.to)) {
                return STATE;
            }
        }
        if (arcs.size() == 6) {
            return ROOM;
        }
        arcs.add(new Arc(from, to, by));
        return arcs.size();
    }

    int levelAt(int tick) {
        return in(tick, 0, 20000) ? height(tick) : OUTSIDE;
    }

    private int height(int t) {
        var before = levels.floorEntry(t);
        var after = levels.higherEntry(t);
        if (before == null) {
            return 64;
        }
        int l0 = before.getValue().height;
        if (after == null || !after.getValue().swells) {
            return l0;
        }
        int t0 = before.getKey();
        return l0 + (int) Math.floor((after.getValue().height - l0) * (double) (t - t0) / (after.getKey() - t0));
    }

    int timeOf(int tick) {
        return in(tick, 0, 20000) ? time(tick) : OUTSIDE;
    }

    private int time(int t) {
        for (Arc arc : arcs) {
            if (arc.from < t && t < arc.to) {
                long w = arc.to - arc.from;
                return t + (int) Math.floorDiv((long) arc.by * 4 * (t - arc.from) * (arc.to - t), w * w);
            }
        }
        return t;
    }

    int feed(int n, long w) {
        if (!in(n, 1, 8)) {
            return OUTSIDE;
        }
        if (tape.length() + n > 400) {
            return ROOM;
        }
        for (int i = n; i-- > 0;) {
            tape.append((char) (w >> i * 8 & 255));
        }
        return tape.length();
    }

    int read() {
        String text = tape.toString();
        tape.setLength(0);
        List<String> pieces = new ArrayList<>();
        List<Integer> places = new ArrayList<>();
        Matcher matcher = PIECE.matcher(text);
        while (matcher.find()) {
            pieces.add(matcher.group(1));
            places.add(matcher.start(1));
        }
        List<Rule> come = new ArrayList<>();
        int bad = parse(pieces, come);
        if (bad >= 0) {
            return -10 - (bad < places.size() ? places.get(bad) : text.length());
        }
        rules.addAll(come);
        return rules.size();
    }

    /** The number of the piece that can not stand there, or -1. */
    private int parse(List<String> pieces, List<Rule> come) {
        int i = 0;
        while (i < pieces.size()) {
            if (rules.size() + come.size() == 24) {
                return i;
            }
            int voice = NONE;
            if (piece(pieces, i).equals("voice")) {
                if (!number(piece(pieces, i + 1), 0, 3)) {
                    return i + 1;
                }
                voice = Integer.parseInt(piece(pieces, i + 1).replaceFirst("^0+(?=.)", ""));
                i += 2;
            }
            int name = NAMES.indexOf(piece(pieces, i));
            if (name < 0) {
                return i;
            }
            if (!number(piece(pieces, i + 1), BOUNDS[name][1], BOUNDS[name][2])) {
                return i + 1;
            }
            int number = Integer.parseInt(piece(pieces, i + 1).replaceFirst("^0+(?=.)", ""));
            i += 2;
            int rank = 0;
            if (piece(pieces, i).equals("rank")) {
                if (!number(piece(pieces, i + 1), 0, 9)) {
                    return i + 1;
                }
                rank = Integer.parseInt(piece(pieces, i + 1).replaceFirst("^0+(?=.)", ""));
                i += 2;
            }
            if (!piece(pieces, i).equals(";")) {
                return i;
            }
            i++;
            come.add(new Rule(voice, name, number, rank));
        }
        return -1;
    }

    private static String piece(List<String> pieces, int i) {
        return i < pieces.size() ? pieces.get(i) : "";
    }

    private static boolean number(String piece, int least, int most) {
        if (!piece.matches("[0-9]+")) {
            return false;
        }
        java.math.BigInteger n = new java.math.BigInteger(piece);
        return n.bitLength() < 20 && in(n.intValue(), least, most);
    }

    int plain() {
        int before = rules.size();
        rules.clear();
        return before;
    }

    int rule(int rule, int what) {
        if (!in(rule, 0, rules.size() - 1) || !in(what, 0, 3)) {
            return UNKNOWN;
        }
        Rule r = rules.get(rule);
        return new int[] {r.voice, r.name, r.number, r.rank}[what];
    }

    int value(int voice, int name) {
        int rule = why(voice, name);
        return rule == UNKNOWN ? UNKNOWN : rule == NONE ? BOUNDS[name][0] : rules.get(rule).number;
    }

    int why(int voice, int name) {
        if (!in(voice, 0, 3) || !in(name, 0, 12)) {
            return UNKNOWN;
        }
        for (int rank = 9; rank >= 0; rank--) {
            for (int i = rules.size() - 1; i >= 0; i--) {
                Rule r = rules.get(i);
                if (r.rank == rank && r.name == name && (r.voice == NONE || r.voice == voice)) {
                    return i;
                }
            }
        }
        return NONE;
    }

    int perform() {
        List<Part> parts = new ArrayList<>();
        for (int i = 0; i < notes.size(); i++) {
            performNote(i, parts);
        }
        if (parts.size() > 400) {
            return ROOM;
        }
        List<Event> made = new ArrayList<>();
        for (Part p : parts) {
            int begin = time(p.on);
            made.add(new Event(begin, Math.max(begin + 1, time(p.end)), p.pitch, p.loud, p.note, p.kind, notes.get(p.note)[0]));
        }
        made.sort(Comparator.comparingInt(Event::begin).thenComparingInt(Event::voice).thenComparingInt(Event::pitch)
            .thenComparingInt(Event::note));
        events = new ArrayList<>();
        for (Event e : made) {
            int end = e.end;
            for (Event o : made) {
                if (o.voice == e.voice && o.pitch == e.pitch && o.begin > e.begin && o.begin < end) {
                    end = o.begin;
                }
            }
            events.add(new Event(e.begin, end, e.pitch, e.loud, e.note, e.kind, e.voice));
        }
        return events.size();
    }

    private void performNote(int number, List<Part> parts) {
        int[] n = notes.get(number);
        int voice = n[0], start = n[1], length = n[2], pitch = n[3], marks = n[4];
        int share = value(voice, (marks & 1) != 0 ? 0 : (marks & 2) != 0 ? 2 : 1);
        int lng = length * share / 100;
        int floor = Math.min(value(voice, 3), length);
        if (lng < floor) {
            lng = floor;
        }
        int loud = height(start) + ((marks & 4) != 0 ? value(voice, 4) : 0);
        loud += start % (beats * unit) == 0 ? value(voice, 5) : start % unit == 0 ? value(voice, 6) : 0;
        loud = loud < 1 ? 1 : loud > 127 ? 127 : loud;
        int on = start;
        int loose = value(voice, 12);
        if (loose > 0) {
            long z = seed + (number + 1) * 0x9E3779B97F4A7C15L;
            z = (z ^ z >>> 30) * 0xBF58476D1CE4E5B9L;
            z = z ^ z >>> 27;
            on = Math.max(0, on + (int) ((z >>> 33) % (2 * loose + 1)) - loose);
        }
        if ((marks & 64) != 0) {
            int k = 0;
            for (int i = 0; i < notes.size(); i++) {
                int[] o = notes.get(i);
                if ((o[4] & 64) != 0 && o[0] == voice && o[1] == start && (o[3] < pitch || o[3] == pitch && i < number)) {
                    k++;
                }
            }
            int d = Math.min(k * value(voice, 11), lng - 1);
            on += d;
            lng -= d;
        }
        int g = Math.min(value(voice, 10), lng / 2);
        if ((marks & 32) != 0 && g > 0) {
            parts.add(new Part(on, on + g, pitch + 2, Math.max(1, loud * 3 / 4), number, 1));
            on += g;
            lng -= g;
        }
        int end = on + lng;
        int trill = value(voice, 7);
        if ((marks & 8) != 0 && lng / trill >= 2) {
            List<Integer> pitches = new ArrayList<>();
            for (int i = 0; i < lng / trill; i++) {
                pitches.add((i + value(voice, 8)) % 2 == 0 ? pitch : pitch + 2);
            }
            if (pitches.get(pitches.size() - 1) == pitch + 2) {
                pitches.remove(pitches.size() - 1);
            }
            for (int i = 0; i < pitches.size(); i++) {
                int to = i == pitches.size() - 1 ? end : on + (i + 1) * trill;
                parts.add(new Part(on + i * trill, to, pitches.get(i), loud, number, 2));
            }
        } else if ((marks & 16) != 0 && lng >= 3) {
            int t = Math.min(value(voice, 9), lng / 3);
            parts.add(new Part(on, on + t, pitch, loud, number, 3));
            parts.add(new Part(on + t, on + 2 * t, pitch - 2, loud, number, 3));
            parts.add(new Part(on + 2 * t, end, pitch, loud, number, 3));
        } else {
            parts.add(new Part(on, end, pitch, loud, number, 0));
        }
    }

    int event(int i, int what) {
        if (!in(i, 0, events.size() - 1) || !in(what, 0, 6)) {
            return UNKNOWN;
        }
        Event e = events.get(i);
        return new int[] {e.begin, e.end - e.begin, e.pitch, e.loud, e.note, e.kind, e.voice}[what];
    }

    int sounding(int time) {
        return (int) events.stream().filter(e -> e.begin <= time && e.end > time).count();
    }

    int span(int note, int what) {
        if (!in(note, 0, notes.size() - 1) || !in(what, 0, 2)) {
            return UNKNOWN;
        }
        List<Event> own = events.stream().filter(e -> e.note == note).toList();
        if (what == 0) {
            return own.size();
        }
        return what == 1 ? own.stream().mapToInt(Event::begin).min().orElse(NONE)
            : own.stream().mapToInt(Event::end).max().orElse(NONE);
    }

    int count(int what) {
        int[] counts = {notes.size(), levels.size(), arcs.size(), rules.size(), events.size(), tape.length()};
        return in(what, 0, 5) ? counts[what] : UNKNOWN;
    }
}
