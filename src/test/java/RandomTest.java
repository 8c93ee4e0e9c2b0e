import java.util.Random;

/**
 * Runs of calls that are drawn with fixed seeds, each answer compared with the Model's. A run has 512 calls: what
 * later ones answer is free.
 */
public final class RandomTest {
    private static final Check CHECK = new Check("RandomTest");
    private static final int RUNS = 6000;
    private static final int CALLS = 512;
    private static final int[] WILD = {
        Integer.MIN_VALUE, Integer.MIN_VALUE + 1, -1005, -1001, -2, -1, 0, 1, 2, 3, 4, 5, 6, 7, 12, 13, 24, 48, 115, 127,
        128, 400, 512, 960, 961, 9600, 20000, 20001, 65536, Integer.MAX_VALUE - 1, Integer.MAX_VALUE
    };
    private static final String[] WORDS = {
        "voice", "rank", "short", "plain", "held", "least", "accent", "first", "beat", "trill", "upper", "turn", "lean",
        "roll", "loose", ";", " ", "\n", "0", "1", "7", "100", "960", "961", "x", "\u00e9", "-"
    };

    private final Random random;
    private final StyleRows rows;
    private final Model model;
    private final String run;
    /** In a narrow run NOTES lie close, so that they meet. */
    private final boolean narrow;
    private final boolean wildRun;
    private int calls;

    private RandomTest(int run) {
        random = new Random(run);
        long seed = random.nextInt(4) == 0 ? random.nextInt(3) - 1 : random.nextLong();
        rows = new StyleRows(seed);
        model = new Model(seed);
        narrow = random.nextInt(3) > 0;
        wildRun = random.nextInt(8) == 0;
        this.run = "run " + run + ": ";
    }

    public static void main(String[] args) {
        for (int run = 0; run < RUNS && !CHECK.hasWrong(); run++) {
            new RandomTest(run).play();
        }
        CHECK.end();
    }

    private void play() {
        while (calls < CALLS && !CHECK.hasWrong()) {
            int kind = random.nextInt(100);
            if (kind < 45) {
                changeScore(kind);
            } else if (kind < 60) {
                changeStyle();
            } else if (kind < 68) {
                answer("perform", rows.perform(), model.perform());
            } else {
                ask(random.nextInt(10));
            }
        }
    }

    private void answer(String call, long got, long want) {
        if (calls < CALLS) {
            CHECK.due(run + call, got, want);
        }
        calls++;
    }

    private int draw(int least, int most) {
        if (random.nextInt(wildRun ? 3 : 150) == 0) {
            return WILD[random.nextInt(WILD.length)];
        }
        return least + random.nextInt(most - least + 1);
    }

    private void changeScore(int kind) {
        if (kind < 18) {
            int voice = draw(0, narrow ? 1 : 3);
            int start = narrow ? draw(0, 8) * 60 : draw(0, 9600);
            int length = random.nextBoolean() ? draw(1, 30) : draw(1, 960);
            int pitch = narrow ? draw(60, 63) : draw(12, 115);
            int marks = random.nextBoolean() ? draw(0, 7) : draw(0, 127);
            answer("note " + voice + " " + start + " " + length + " " + pitch + " " + marks,
                rows.note(voice, start, length, pitch, marks), model.note(voice, start, length, pitch, marks));
        } else if (kind < 28) {
            int note = draw(0, 20);
            int marks = draw(0, 127);
            answer("mark", rows.mark(note, marks), model.mark(note, marks));
        } else if (kind < 34) {
            int tick = narrow ? draw(0, 500) : draw(0, 20000);
            int level = draw(1, 127);
            boolean swells = random.nextBoolean();
            answer("level", rows.level(tick, level, swells), model.level(tick, level, swells));
        } else if (kind < 38) {
            int beats = draw(1, 12);
            int unit = random.nextBoolean() ? draw(1, 60) : draw(1, 960);
            answer("meter", rows.meter(beats, unit), model.meter(beats, unit));
        } else {
            int from = narrow ? draw(0, 1000) : draw(0, 20000);
            int to = from + (narrow ? draw(1, 300) : draw(1, 5000));
            int by = draw(-400, 400);
            answer("arc " + from + " " + to + " " + by, rows.arc(from, to, by), model.arc(from, to, by));
        }
    }

    private void changeStyle() {
        int kind = random.nextInt(12);
        if (kind == 0) {
            answer("plain", rows.plain(), model.plain());
        } else if (kind < 3) {
            int n = draw(1, 8);
            long w = random.nextLong();
            answer("feed", rows.feed(n, w), model.feed(n, w));
        } else if (kind < 5) {
            answer("read", rows.read(), model.read());
        } else {
            String text = text();
            for (int i = 0; i < text.length(); i += 8) {
                String piece = text.substring(i, Math.min(text.length(), i + 8));
                long w = Texts.word(piece);
                answer("feed", rows.feed(piece.length(), w), model.feed(piece.length(), w));
            }
            answer("read '" + text + "'", rows.read(), model.read());
        }
    }

    private String text() {
        StringBuilder text = new StringBuilder();
        int rules = random.nextInt(random.nextInt(10) == 0 ? 26 : 4);
        for (int i = 0; i < rules; i++) {
            addRule(text);
        }
        if (random.nextInt(5) == 0) {
            int at = random.nextInt(text.length() + 1);
            text.insert(at, WORDS[random.nextInt(WORDS.length)]);
        }
        if (text.length() > 0 && random.nextInt(10) == 0) {
            text.deleteCharAt(random.nextInt(text.length()));
        }
        return text.toString();
    }

    private void addRule(StringBuilder text) {
        if (random.nextBoolean()) {
            text.append("voice").append(gap()).append(random.nextInt(4)).append(gap());
        }
        int name = random.nextInt(13);
        int number = random.nextInt(3) == 0 ? random.nextInt(Names.MOST[name] + 1) : random.nextInt(Math.min(Names.MOST[name], 40) + 1);
        int least = name < 4 || name == 7 || name == 9 ? 1 : 0;
        text.append(WORDS[name + 2]).append(gap()).append(random.nextInt(9) == 0 ? "00000" : "");
        text.append(random.nextInt(60) == 0 ? random.nextInt(1000) : Math.max(least, number)).append(gap());
        if (random.nextBoolean()) {
            text.append("rank").append(gap()).append(random.nextInt(10)).append(gap());
        }
        text.append(";").append(gap());
    }

    private String gap() {
        String[] gaps = {"", "", " ", "\n", " \n"};
        return gaps[random.nextInt(gaps.length)];
    }

    private void ask(int kind) {
        int tick = narrow ? draw(-300, 1300) : draw(0, 20000);
        int voice = draw(0, 3);
        int name = draw(0, 12);
        int note = draw(0, 47);
        switch (kind) {
            case 0 -> answer("levelAt " + tick, rows.levelAt(tick), model.levelAt(tick));
            case 1 -> answer("timeOf " + tick, rows.timeOf(tick), model.timeOf(tick));
            case 2 -> answer("sounding " + tick, rows.sounding(tick), model.sounding(tick));
            case 3 -> answer("value " + voice + " " + name, rows.value(voice, name), model.value(voice, name));
            case 4 -> answer("why " + voice + " " + name, rows.why(voice, name), model.why(voice, name));
            case 5 -> answer("rule", rows.rule(note, voice), model.rule(note, voice));
            case 6 -> answer("span " + note + " " + voice, rows.span(note, voice), model.span(note, voice));
            case 7 -> answer("count " + name, rows.count(name), model.count(name));
            default -> askEvents();
        }
    }

    /** A few EVENTS and spans, whole: they are the dearest to get wrong and take many calls. */
    private void askEvents() {
        int from = draw(-1, Math.max(0, model.count(4)));
        for (int next = 0; next < 4; next++) {
            int i = from + next;
            for (int what = 0; what < 7; what++) {
                answer("event " + i + " " + what, rows.event(i, what), model.event(i, what));
            }
        }
        int note = draw(-1, Math.max(0, model.count(0)));
        for (int what = 0; what < 3; what++) {
            answer("span " + note + " " + what, rows.span(note, what), model.span(note, what));
        }
    }
}
