/** The boundary cases of promises 1 to 8, a method for each sentence of the document that names one. */
public final class ScoreEdgesTest {
    private static final Check CHECK = new Check("ScoreEdgesTest");
    private static final int TAKEN = 1;

    public static void main(String[] args) {
        newObjectIsEmpty();
        newObjectHasNoMeterButTheFirst();
        seedsAreAnyLong();
        noteNumbers();
        notesAsTheyCome();
        notesAtMost();
        markNumbers();
        marksOfWhichNote();
        marksOneByOne();
        levelNumbers();
        levelsAtMost();
        levelsInPlace();
        levelAtTicks();
        aheadOfAll();
        fromThereOn();
        swellsBetween();
        swellsDownward();
        swellsFromNone();
        meterNumbers();
        barsFromTickNought();
        arcNumbers();
        arcEnds();
        arcsShare();
        arcsAtMost();
        timeOfTicks();
        timeAtEnds();
        timeDownward();
        timeFarthest();
        CHECK.end();
    }

    /** "no NOTES, LEVELS, ARCS, RULES; nothing is PERFORMED". */
    private static void newObjectIsEmpty() {
        StyleRows rows = new StyleRows(0);
        for (int what = 0; what < 6; what++) {
            CHECK.due("1 count(" + what + ") of a new object", rows.count(what), 0);
        }
        CHECK.due("1 mark: no NOTE", rows.mark(0, 0), StyleRows.UNKNOWN);
        CHECK.due("1 levelAt(0): no LEVEL", rows.levelAt(0), 64);
        CHECK.due("1 levelAt(20000): no LEVEL", rows.levelAt(20000), 64);
        CHECK.due("1 timeOf(0): no ARC", rows.timeOf(0), 0);
        CHECK.due("1 timeOf(20000): no ARC", rows.timeOf(20000), 20000);
        CHECK.due("1 rule: no RULE", rows.rule(0, 0), StyleRows.UNKNOWN);
        CHECK.due("1 why: no RULE", rows.why(3, 12), StyleRows.NONE);
        CHECK.due("1 value: no RULE", rows.value(3, 11), 12);
        CHECK.due("1 plain: no RULE", rows.plain(), 0);
        CHECK.due("1 event: nothing PERFORMED", rows.event(0, 0), StyleRows.UNKNOWN);
        CHECK.due("1 sounding: nothing PERFORMED", rows.sounding(0), 0);
        CHECK.due("1 span: no NOTE", rows.span(0, 0), StyleRows.UNKNOWN);
        CHECK.due("1 read: no TAPE", rows.read(), 0);
        CHECK.due("1 perform: no NOTE", rows.perform(), 0);
        CHECK.due("1 count(4): no NOTE", rows.count(4), 0);
    }

    /** "BEATS (4 at first) of a UNIT (240) of ticks". */
    private static void newObjectHasNoMeterButTheFirst() {
        StyleRows rows = new StyleRows(0);
        loud("1 a new object's meter", rows, new int[] {0, 239, 240, 241, 720, 959, 960, 961, 1919, 1920},
            new int[] {72, 64, 68, 64, 68, 64, 72, 64, 64, 72});
    }

    /** "THE SEED". */
    private static void seedsAreAnyLong() {
        long[] seeds = {Long.MIN_VALUE, Long.MIN_VALUE + 1, -1, 0, 1, 1L << 32, Long.MAX_VALUE};
        boolean differ = false;
        int first = 0;
        for (int i = 0; i < seeds.length; i++) {
            StyleRows rows = new StyleRows(seeds[i]);
            rows.note(0, 5000, 1, 60, 0);
            Texts.read(rows, "loose 99;");
            rows.perform();
            int on = rows.event(0, 0);
            first = i == 0 ? on : first;
            differ |= on != first;
            CHECK.due("1 SEED " + seeds[i], on, 5000 + Draws.of(seeds[i], 0, 99));
        }
        CHECK.due("1 SEEDS differ", differ ? 1 : 0, 1);
    }

    private static void loud(String what, StyleRows rows, int[] starts, int[] want) {
        for (int start : starts) {
            rows.note(0, start, 1, 60, 0);
        }
        rows.perform();
        for (int i = 0; i < starts.length; i++) {
            CHECK.due(what + ", START " + starts[i], rows.event(i, 3), want[i]);
        }
    }

    private static StyleRows fresh() {
        return new StyleRows(0);
    }

    /** "a VOICE 0 .. 3, a START 0 .. 9600, a LENGTH 1 .. 960 (ticks), a PITCH 12 .. 115, MARKS". */
    private static void noteNumbers() {
        int refused = StyleRows.OUTSIDE;
        CHECK.bounds("2 VOICE", 0, 3, 0, refused, n -> fresh().note(n, 0, 1, 12, 0));
        CHECK.bounds("2 START", 0, 9600, 0, refused, n -> fresh().note(0, n, 1, 12, 0));
        CHECK.bounds("2 LENGTH", 1, 960, 0, refused, n -> fresh().note(0, 0, n, 12, 0));
        CHECK.bounds("2 PITCH", 12, 115, 0, refused, n -> fresh().note(0, 0, 1, n, 0));
        CHECK.bounds("2 MARKS", 0, 127, 0, refused, n -> fresh().note(0, 0, 1, 12, n));
        StyleRows rows = new StyleRows(0);
        rows.note(3, 9600, 960, 115, 2);
        rows.note(0, 0, 1, 12, 0);
        rows.perform();
        CHECK.event(rows, 0, 0, 1, 12, 72, 1, 0, 0);
        CHECK.event(rows, 1, 9600, 960, 115, 72, 0, 0, 3);
    }

    /** "NOTES 0, 1, .. as they come": a refused one takes no number. */
    private static void notesAsTheyCome() {
        StyleRows rows = new StyleRows(0);
        CHECK.due("2 the first NOTE", rows.note(0, 500, 1, 60, 0), 0);
        CHECK.due("2 a refused NOTE", rows.note(0, 500, 0, 60, 0), StyleRows.OUTSIDE);
        CHECK.due("2 count behind it", rows.count(0), 1);
        CHECK.due("2 the NOTE behind it", rows.note(0, 100, 1, 60, 0), 1);
        CHECK.due("2 one like another", rows.note(0, 100, 1, 60, 0), 2);
    }

    /** "48 at most". */
    private static void notesAtMost() {
        StyleRows rows = new StyleRows(0);
        for (int i = 0; i < 48; i++) {
            CHECK.due("2 NOTE " + i, rows.note(0, i, 1, 60, i), i);
            CHECK.due("2 count", rows.count(0), i + 1);
        }
        CHECK.due("2 the 49th", rows.note(0, 0, 1, 60, 0), StyleRows.ROOM);
        CHECK.due("2 the 49th again", rows.note(3, 9600, 960, 115, 127), StyleRows.ROOM);
        CHECK.due("2 OUTSIDE ahead of ROOM", rows.note(0, 9601, 1, 60, 0), StyleRows.OUTSIDE);
        CHECK.due("2 OUTSIDE ahead of ROOM, MARKS", rows.note(0, 0, 1, 60, 128), StyleRows.OUTSIDE);
        CHECK.due("2 count behind them", rows.count(0), 48);
        CHECK.due("2 the 48th stays", rows.mark(47, 0), 47);
        CHECK.due("2 the first stays", rows.mark(0, 1), 0);
        CHECK.due("2 no 49th", rows.mark(48, 0), StyleRows.UNKNOWN);
    }

    private static StyleRows threeNotes() {
        StyleRows rows = new StyleRows(0);
        rows.note(0, 0, 1, 60, 9);
        rows.note(0, 0, 1, 60, 9);
        rows.note(0, 0, 1, 60, 9);
        return rows;
    }

    /** "MARKS, a set of: 1 .. 64"; "OUTSIDE". */
    private static void markNumbers() {
        CHECK.bounds("3 MARKS", 0, 127, 9, StyleRows.OUTSIDE, n -> threeNotes().mark(0, n));
        StyleRows rows = threeNotes();
        CHECK.due("3 MARKS too large", rows.mark(1, 128), StyleRows.OUTSIDE);
        CHECK.due("3 MARKS too small", rows.mark(1, -1), StyleRows.OUTSIDE);
        CHECK.due("3 nothing changed", rows.mark(1, 127), 9);
        CHECK.due("3 all MARKS", rows.mark(1, 0), 127);
        CHECK.due("3 no MARKS", rows.mark(1, 0), 0);
        CHECK.due("3 the NOTE ahead", rows.mark(0, 0), 9);
        CHECK.due("3 the NOTE behind", rows.mark(2, 0), 9);
    }

    /** "UNKNOWN (no such NOTE)", ahead of OUTSIDE. */
    private static void marksOfWhichNote() {
        CHECK.bounds("3 NOTE", 0, 2, 9, StyleRows.UNKNOWN, n -> threeNotes().mark(n, 0));
        CHECK.due("3 no NOTE at all", fresh().mark(0, 0), StyleRows.UNKNOWN);
        CHECK.due("3 UNKNOWN ahead of OUTSIDE", threeNotes().mark(3, 128), StyleRows.UNKNOWN);
        CHECK.due("3 UNKNOWN ahead of OUTSIDE", threeNotes().mark(-1, -1), StyleRows.UNKNOWN);
    }

    /** "1 SHORT, 2 HELD, 4 ACCENT, 8 TRILL, 16 TURN, 32 LEAN, 64 ROLL": each by itself. */
    private static void marksOneByOne() {
        StyleRows rows = threeNotes();
        int before = 9;
        for (int mark = 1; mark <= 64; mark *= 2) {
            CHECK.due("3 MARKS ahead of " + mark, rows.mark(2, mark), before);
            before = mark;
        }
    }

    /** "each at a tick 0 .. 20000 of its own: a LEVEL 1 .. 127". */
    private static void levelNumbers() {
        CHECK.bounds("4 tick", 0, 20000, TAKEN, StyleRows.OUTSIDE, n -> fresh().level(n, 1, false));
        CHECK.bounds("4 LEVEL", 1, 127, TAKEN, StyleRows.OUTSIDE, n -> fresh().level(0, n, true));
        StyleRows rows = new StyleRows(0);
        CHECK.due("4 first tick, most", rows.level(0, 127, false), 1);
        CHECK.due("4 last tick, least", rows.level(20000, 1, false), 2);
        CHECK.due("4 a LEVEL too large", rows.level(0, 128, false), StyleRows.OUTSIDE);
        CHECK.due("4 a tick too large", rows.level(20001, 64, false), StyleRows.OUTSIDE);
        CHECK.due("4 nothing changed", rows.levelAt(0), 127);
        CHECK.due("4 ahead of the last tick", rows.levelAt(19999), 127);
        CHECK.due("4 the last tick", rows.levelAt(20000), 1);
        CHECK.due("4 count", rows.count(1), 2);
    }

    /** "LEVELS, 12 at most". */
    private static void levelsAtMost() {
        StyleRows rows = new StyleRows(0);
        for (int i = 0; i < 12; i++) {
            CHECK.due("4 LEVEL " + i, rows.level(100 + (i * 5 % 12) * 10, 1 + i, false), i + 1);
            CHECK.due("4 count", rows.count(1), i + 1);
        }
        CHECK.due("4 the 13th, ahead of all", rows.level(0, 99, false), StyleRows.ROOM);
        CHECK.due("4 the 13th, between", rows.level(105, 99, false), StyleRows.ROOM);
        CHECK.due("4 the 13th, behind all", rows.level(20000, 99, false), StyleRows.ROOM);
        CHECK.due("4 OUTSIDE ahead of ROOM, LEVEL", rows.level(0, 0, false), StyleRows.OUTSIDE);
        CHECK.due("4 OUTSIDE ahead of ROOM, tick", rows.level(-1, 1, false), StyleRows.OUTSIDE);
        CHECK.due("4 count", rows.count(1), 12);
        CHECK.due("4 nothing changed ahead of all", rows.levelAt(99), 64);
        for (int i = 0; i < 12; i++) {
            int tick = 100 + (i * 5 % 12) * 10;
            CHECK.due("4 nothing changed at " + tick, rows.levelAt(tick), 1 + i);
            CHECK.due("4 nothing changed up to the next", rows.levelAt(tick + 9), 1 + i);
        }
    }

    /** "A LEVEL at a tick, in place of one there": also when there are 12. */
    private static void levelsInPlace() {
        StyleRows rows = new StyleRows(0);
        CHECK.due("4 the first", rows.level(10, 5, false), 1);
        CHECK.due("4 in its place", rows.level(10, 6, false), 1);
        CHECK.due("4 in its place", rows.levelAt(10), 6);
        CHECK.due("4 a tick behind", rows.level(11, 7, false), 2);
        CHECK.due("4 a tick ahead", rows.level(9, 8, false), 3);
        for (int i = 3; i < 12; i++) {
            rows.level(i * 100, 20, false);
        }
        CHECK.due("4 of 12 the first", rows.level(9, 1, false), 12);
        CHECK.due("4 of 12 the last", rows.level(1100, 127, true), 12);
        CHECK.due("4 of 12 one between", rows.level(11, 50, false), 12);
        CHECK.due("4 the first", rows.levelAt(9), 1);
        CHECK.due("4 the one between", rows.levelAt(11), 50);
        CHECK.due("4 swells now", rows.levelAt(1050), 73);
        CHECK.due("4 the last", rows.levelAt(1100), 127);
        CHECK.due("4 still no room", rows.level(12, 1, false), StyleRows.ROOM);
    }

    /** "The LEVEL at a tick 0 .. 20000. OUTSIDE". */
    private static void levelAtTicks() {
        CHECK.bounds("7 tick", 0, 20000, 64, StyleRows.OUTSIDE, n -> fresh().levelAt(n));
    }

    /** "Ahead of all it is 64". */
    private static void aheadOfAll() {
        StyleRows rows = new StyleRows(0);
        rows.level(1, 9, false);
        CHECK.due("7 a tick ahead of all", rows.levelAt(0), 64);
        CHECK.due("7 at the first", rows.levelAt(1), 9);
        rows.level(0, 8, false);
        CHECK.due("7 none is ahead of tick 0", rows.levelAt(0), 8);
        StyleRows last = new StyleRows(0);
        last.level(20000, 9, false);
        CHECK.due("7 ahead of one at the last tick", last.levelAt(19999), 64);
        CHECK.due("7 at the last tick", last.levelAt(20000), 9);
    }

    /** "a LEVEL 1 .. 127 from there on". */
    private static void fromThereOn() {
        StyleRows rows = new StyleRows(0);
        rows.level(100, 10, false);
        rows.level(200, 20, false);
        CHECK.due("7 there", rows.levelAt(100), 10);
        CHECK.due("7 from there on", rows.levelAt(199), 10);
        CHECK.due("7 up to the next", rows.levelAt(200), 20);
        CHECK.due("7 behind the last", rows.levelAt(20000), 20);
    }

    /** "one that SWELLS is also come to evenly from the LEVEL before it": "between their ticks t0 and t1". */
    private static void swellsBetween() {
        StyleRows rows = new StyleRows(0);
        rows.level(100, 10, false);
        rows.level(104, 50, true);
        rows.level(105, 127, true);
        rows.level(110, 127, true);
        CHECK.due("7 ahead of t0", rows.levelAt(99), 64);
        int[] want = {10, 20, 30, 40, 50, 127, 127, 127, 127, 127, 127, 127};
        for (int i = 0; i < want.length; i++) {
            CHECK.due("7 at " + (100 + i), rows.levelAt(100 + i), want[i]);
        }
        StyleRows wide = new StyleRows(0);
        wide.level(0, 1, false);
        wide.level(20000, 127, true);
        CHECK.due("7 widest, the last 1", wide.levelAt(158), 1);
        CHECK.due("7 widest, the first 2", wide.levelAt(159), 2);
        CHECK.due("7 widest, the last tick but one", wide.levelAt(19999), 126);
        CHECK.due("7 widest, t1", wide.levelAt(20000), 127);
    }

    /** "All quotients are downward", those below 0 too. */
    private static void swellsDownward() {
        StyleRows rows = new StyleRows(0);
        rows.level(10, 3, false);
        rows.level(13, 1, true);
        rows.level(16, 3, true);
        int[] want = {3, 2, 1, 1, 1, 2, 3};
        for (int i = 0; i < want.length; i++) {
            CHECK.due("7 downward at " + (10 + i), rows.levelAt(10 + i), want[i]);
        }
        rows.note(0, 11, 1, 60, 0);
        rows.note(0, 12, 1, 60, 0);
        rows.perform();
        CHECK.due("7 LOUD takes it", rows.event(0, 3), 2);
        CHECK.due("7 LOUD takes it", rows.event(1, 3), 1);
    }

    /** "(without one it steps)". */
    private static void swellsFromNone() {
        StyleRows rows = new StyleRows(0);
        rows.level(100, 10, true);
        CHECK.due("7 without one ahead", rows.levelAt(0), 64);
        CHECK.due("7 without one ahead", rows.levelAt(99), 64);
        CHECK.due("7 it steps", rows.levelAt(100), 10);
        rows.level(0, 110, true);
        CHECK.due("7 with one ahead now", rows.levelAt(0), 110);
        CHECK.due("7 it swells now", rows.levelAt(99), 11);
    }

    /** "BEATS 1 .. 12 of a UNIT 1 .. 960: 1. OUTSIDE". */
    private static void meterNumbers() {
        CHECK.bounds("5 BEATS", 1, 12, 1, StyleRows.OUTSIDE, n -> fresh().meter(n, 1));
        CHECK.bounds("5 UNIT", 1, 960, 1, StyleRows.OUTSIDE, n -> fresh().meter(1, n));
        int[][] wrong = {{0, 100}, {13, 100}, {2, 0}, {2, 961}};
        for (int[] w : wrong) {
            StyleRows rows = new StyleRows(0);
            rows.meter(3, 50);
            CHECK.due("5 refused", rows.meter(w[0], w[1]), StyleRows.OUTSIDE);
            loud("5 nothing changed", rows, new int[] {49, 50, 100, 150}, new int[] {64, 68, 68, 72});
        }
    }

    /** "A BAR has BEATS of a UNIT of ticks, from tick 0 on". */
    private static void barsFromTickNought() {
        StyleRows least = new StyleRows(0);
        least.meter(1, 1);
        loud("5 1 of 1", least, new int[] {0, 1, 2, 9600}, new int[] {72, 72, 72, 72});
        StyleRows most = new StyleRows(0);
        most.meter(12, 960);
        loud("5 12 of 960", most, new int[] {0, 1, 959, 960, 8640, 9599, 9600}, new int[] {72, 64, 64, 68, 68, 64, 68});
        StyleRows odd = new StyleRows(0);
        odd.meter(5, 7);
        loud("5 5 of 7", odd, new int[] {0, 5, 7, 28, 34, 35, 36, 42, 70}, new int[] {72, 64, 68, 68, 64, 72, 64, 68, 72});
        StyleRows oneBeat = new StyleRows(0);
        oneBeat.meter(1, 960);
        loud("5 1 of 960", oneBeat, new int[] {480, 960, 9600}, new int[] {64, 72, 72});
        StyleRows small = new StyleRows(0);
        small.meter(12, 1);
        loud("5 12 of 1", small, new int[] {0, 1, 11, 12, 13}, new int[] {72, 68, 68, 72, 68});
    }

    /** "0 <= a < b <= 20000, by -400 .. 400". */
    private static void arcNumbers() {
        CHECK.bounds("6 a", 0, 19999, TAKEN, StyleRows.OUTSIDE, n -> fresh().arc(n, 20000, 0));
        CHECK.bounds("6 b", 1, 20000, TAKEN, StyleRows.OUTSIDE, n -> fresh().arc(0, n, 0));
        CHECK.bounds("6 by", -400, 400, TAKEN, StyleRows.OUTSIDE, n -> fresh().arc(0, 1, n));
        StyleRows rows = new StyleRows(0);
        CHECK.due("6 refused", rows.arc(0, 20000, 401), StyleRows.OUTSIDE);
        CHECK.due("6 refused", rows.arc(0, 20001, 400), StyleRows.OUTSIDE);
        CHECK.due("6 refused", rows.arc(-1, 20000, 400), StyleRows.OUTSIDE);
        CHECK.due("6 nothing changed", rows.count(2), 0);
        CHECK.due("6 nothing changed", rows.timeOf(10000), 10000);
        CHECK.due("6 all of it", rows.arc(0, 20000, 400), 1);
        CHECK.due("6 all of it", rows.timeOf(10000), 10400);
    }

    /** "a < b". */
    private static void arcEnds() {
        for (int tick : new int[] {0, 1, 100, 19999, 20000}) {
            CHECK.due("6 a = b", fresh().arc(tick, tick, 1), StyleRows.OUTSIDE);
            CHECK.due("6 b a tick ahead of a", fresh().arc(tick, tick - 1, 1), StyleRows.OUTSIDE);
            CHECK.due("6 b a tick behind a", fresh().arc(tick, tick + 1, 1), tick < 20000 ? 1 : StyleRows.OUTSIDE);
        }
        CHECK.due("6 far back", fresh().arc(20000, 0, 1), StyleRows.OUTSIDE);
        CHECK.due("6 farthest", fresh().arc(Integer.MIN_VALUE, Integer.MAX_VALUE, 0), StyleRows.OUTSIDE);
        CHECK.due("6 farthest back", fresh().arc(Integer.MAX_VALUE, Integer.MIN_VALUE, 0), StyleRows.OUTSIDE);
    }

    /** "no two sharing more than an end": all pairs of ARCS within six ticks. */
    private static void arcsShare() {
        for (int a = 0; a < 6; a++) {
            for (int b = a + 1; b < 6; b++) {
                for (int c = 0; c < 6; c++) {
                    for (int d = c + 1; d < 6; d++) {
                        pairShares(a, b, c, d);
                    }
                }
            }
        }
        StyleRows rows = new StyleRows(0);
        rows.arc(100, 200, 40);
        CHECK.due("6 OUTSIDE ahead of STATE", rows.arc(100, 200, -401), StyleRows.OUTSIDE);
        CHECK.due("6 between two of them", rows.arc(300, 400, 40), 2);
        CHECK.due("6 it shares two ends", rows.arc(200, 300, 40), 3);
        CHECK.due("6 over all three", rows.arc(100, 400, 40), StyleRows.STATE);
        CHECK.due("6 over the second", rows.arc(399, 400, 40), StyleRows.STATE);
    }

    private static void pairShares(int a, int b, int c, int d) {
        boolean apart = b <= c || d <= a;
        StyleRows rows = new StyleRows(0);
        rows.arc(a, b, 400);
        String pair = a + " .. " + b + " and " + c + " .. " + d;
        CHECK.due("6 " + pair, rows.arc(c, d, -400), apart ? 2 : StyleRows.STATE);
        CHECK.due("6 count, " + pair, rows.count(2), apart ? 2 : 1);
        for (int tick = 0; tick < 6; tick++) {
            int by = a < tick && tick < b ? 1600 * (tick - a) * (b - tick) / ((b - a) * (b - a)) : 0;
            if (apart && c < tick && tick < d) {
                by = (int) Math.floor(-1600.0 * (tick - c) * (d - tick) / ((d - c) * (d - c)));
            }
            CHECK.due("6 TIME of " + tick + ", " + pair, rows.timeOf(tick), tick + by);
        }
    }

    /** "ARCS, 6 at most". */
    private static void arcsAtMost() {
        StyleRows rows = new StyleRows(0);
        for (int i = 0; i < 6; i++) {
            CHECK.due("6 ARC " + i, rows.arc(1000 - 100 * i, 1100 - 100 * i, 10 + i), i + 1);
            CHECK.due("6 count", rows.count(2), i + 1);
        }
        CHECK.due("6 the seventh", rows.arc(0, 500, 1), StyleRows.ROOM);
        CHECK.due("6 the seventh", rows.arc(1100, 20000, 1), StyleRows.ROOM);
        CHECK.due("6 STATE ahead of ROOM", rows.arc(0, 501, 1), StyleRows.STATE);
        CHECK.due("6 OUTSIDE ahead of ROOM", rows.arc(0, 500, 401), StyleRows.OUTSIDE);
        CHECK.due("6 count", rows.count(2), 6);
        CHECK.due("6 nothing changed ahead", rows.timeOf(250), 250);
        CHECK.due("6 nothing changed behind", rows.timeOf(10550), 10550);
        for (int i = 0; i < 6; i++) {
            CHECK.due("6 nothing changed in ARC " + i, rows.timeOf(1050 - 100 * i), 1060 - 99 * i);
        }
    }

    /** "TIME of a tick 0 .. 20000. OUTSIDE". */
    private static void timeOfTicks() {
        CHECK.bounds("8 tick", 0, 20000, 0, StyleRows.OUTSIDE, n -> {
            int time = fresh().timeOf(n);
            return time == n ? 0 : time;
        });
    }

    /** "TIME of a tick t: t, but within an ARC". */
    private static void timeAtEnds() {
        StyleRows rows = new StyleRows(0);
        rows.arc(100, 110, 3);
        rows.arc(110, 112, -400);
        int[] want = {99, 100, 102, 103, 105, 106, 108, 108, 109, 109, 110, 110, -289, 112, 113};
        for (int i = 0; i < want.length; i++) {
            CHECK.due("8 TIME of " + (99 + i), rows.timeOf(99 + i), want[i]);
        }
        StyleRows narrow = new StyleRows(0);
        narrow.arc(0, 1, 400);
        narrow.arc(19999, 20000, -400);
        for (int tick : new int[] {0, 1, 2, 19998, 19999, 20000}) {
            CHECK.due("8 no tick is within an ARC of one", narrow.timeOf(tick), tick);
        }
        StyleRows flat = new StyleRows(0);
        flat.arc(0, 100, 0);
        CHECK.due("8 by 0", flat.timeOf(50), 50);
    }

    /** "All quotients are downward", those below 0 too. */
    private static void timeDownward() {
        StyleRows less = new StyleRows(0);
        less.arc(100, 110, -3);
        int[] want = {100, 99, 100, 100, 101, 102, 103, 104, 106, 107, 110};
        for (int i = 0; i < want.length; i++) {
            CHECK.due("8 downward at " + (100 + i), less.timeOf(100 + i), want[i]);
        }
        StyleRows least = new StyleRows(0);
        least.arc(0, 20000, -1);
        CHECK.due("8 least, a", least.timeOf(0), 0);
        CHECK.due("8 least, behind a", least.timeOf(1), 0);
        CHECK.due("8 least, the middle", least.timeOf(10000), 9999);
        CHECK.due("8 least, ahead of b", least.timeOf(19999), 19998);
        CHECK.due("8 least, b", least.timeOf(20000), 20000);
    }

    /** by * 4 * (t - a) * (b - t) goes far above 32 bits. */
    private static void timeFarthest() {
        int[][] want = {{1, 1}, {12, 12}, {13, 14}, {5000, 5300}, {9999, 10398}, {10000, 10400}, {15000, 15300}, {19999, 19999}};
        StyleRows more = new StyleRows(0);
        more.arc(0, 20000, 400);
        for (int[] w : want) {
            CHECK.due("8 farthest at " + w[0], more.timeOf(w[0]), w[1]);
        }
        StyleRows less = new StyleRows(0);
        less.arc(0, 20000, -400);
        CHECK.due("8 farthest less", less.timeOf(5000), 4700);
        CHECK.due("8 farthest less", less.timeOf(10000), 9600);
        CHECK.due("8 farthest less", less.timeOf(9999), 9599);
        StyleRows below = new StyleRows(0);
        below.arc(0, 2, -400);
        CHECK.due("8 below 0", below.timeOf(1), -399);
    }
}
