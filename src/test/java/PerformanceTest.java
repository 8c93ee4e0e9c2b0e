/** Promises 15 to 19. */
public final class PerformanceTest {
    private static final int SHORT = 1, HELD = 2, ACCENT = 4, TRILL = 8, TURN = 16, LEAN = 32, ROLL = 64;
    private static final Check CHECK = new Check("PerformanceTest");

    public static void main(String[] args) {
        lengths();
        loudness();
        draws();
        eachMark();
        rolls();
        leans();
        trills();
        turns();
        together();
        bent();
        endsLast();
        endsBelowNone();
        order();
        repeats();
        room();
        stays();
        asked();
        CHECK.end();
    }

    private static StyleRows styled(String text) {
        StyleRows rows = new StyleRows(0);
        CHECK.due("style " + text, rows.plain(), 0);
        CHECK.due("style is good", Texts.read(rows, text) >= 0 ? 1 : 0, 1);
        return rows;
    }

    private static StyleRows performed(String text, int length, int marks) {
        StyleRows rows = styled(text);
        rows.note(1, 0, length, 60, marks);
        rows.perform();
        return rows;
    }

    private static void lengths() {
        isLong(1, performed("", 200, 0), 180);
        isLong(2, performed("", 200, SHORT), 100);
        isLong(3, performed("", 200, HELD), 200);
        isLong(4, performed("", 200, SHORT | HELD), 100);
        isLong(5, performed("", 15, SHORT), 10);
        isLong(6, performed("", 7, SHORT), 7);
        isLong(7, performed("", 11, 0), 10);
        isLong(8, performed("", 13, 0), 11);
        isLong(9, performed("least 960;short 1;", 960, SHORT), 960);
        isLong(10, performed("least 1;short 1;", 99, SHORT), 1);
        isLong(11, performed("voice 0 plain 10;", 200, 0), 180);
        isLong(12, performed("voice 1 plain 10;", 200, 0), 20);
    }

    private static void isLong(int i, StyleRows rows, int want) {
        CHECK.due("15 LONG, " + i, rows.event(0, 1), want);
        CHECK.due("15 LOUD, " + i, rows.event(0, 3), 72);
        CHECK.due("15 kind, " + i, rows.event(0, 5), 0);
    }

    private static void loudness() {
        StyleRows rows = new StyleRows(0);
        rows.note(0, 1, 10, 60, 0);
        rows.note(0, 241, 10, 60, ACCENT);
        rows.note(0, 480, 10, 60, ACCENT);
        rows.note(0, 960, 10, 60, ACCENT);
        rows.perform();
        loud(rows, 64, 80, 84, 88);
        rows.level(0, 120, false);
        rows.perform();
        loud(rows, 120, 127, 127, 127);
        rows.level(0, 1, false);
        rows.level(480, 49, true);
        Texts.read(rows, "accent 0;first 0;beat 127;");
        rows.perform();
        loud(rows, 1, 25, 127, 49);
        Texts.read(rows, "first 3;beat 0;");
        rows.perform();
        loud(rows, 1, 25, 49, 52);
    }

    private static void loud(StyleRows rows, int... want) {
        for (int i = 0; i < want.length; i++) {
            CHECK.due("15 LOUD of event " + i, rows.event(i, 3), want[i]);
        }
    }

    private static void draws() {
        long[] seeds = {0, 1, -1, 1234567890123456789L, Long.MIN_VALUE, Long.MAX_VALUE};
        for (long seed : seeds) {
            for (int n : new int[] {0, 1, 17, 99}) {
                StyleRows rows = new StyleRows(seed);
                Texts.read(rows, "loose " + n + ";");
                for (int i = 0; i < 48; i++) {
                    rows.note(i % 4, i < 24 ? 50 : 5000, 20, 60, 0);
                }
                rows.perform();
                for (int i = 0; i < 48; i++) {
                    int want = Math.max(0, (i < 24 ? 50 : 5000) + Draws.of(seed, i, n));
                    CHECK.due("15 ON of note " + i + ", loose " + n, rows.span(i, 1), want);
                }
            }
        }
        StyleRows rows = new StyleRows(0);
        Texts.read(rows, "voice 2 loose 99;");
        rows.note(1, 5000, 20, 60, 0);
        rows.perform();
        CHECK.due("15 loose of its voice", rows.event(0, 0), 5000);
    }

    /** A MARK does what it does and nothing else. */
    private static void eachMark() {
        int[] lengths = {90, 50, 100, 90, 30, 20, 40, 90};
        int[] parts = {1, 1, 1, 1, 3, 3, 2, 1};
        int[] kinds = {0, 0, 0, 0, 2, 3, 1, 0};
        int[] loud = {72, 72, 72, 88, 72, 72, 54, 72};
        for (int i = 0; i < 8; i++) {
            StyleRows rows = new StyleRows(0);
            rows.note(0, 0, 100, 30, ROLL);
            rows.note(0, 0, 100, 60, i == 0 ? 0 : 1 << i - 1);
            rows.perform();
            CHECK.due("15 parts of mark " + i, rows.span(1, 0), parts[i]);
            CHECK.due("15 begin of mark " + i, rows.span(1, 1), i == 7 ? 12 : 0);
            CHECK.due("15 end of mark " + i, rows.span(1, 2), i == 1 ? 50 : i == 2 ? 100 : 90);
            CHECK.event(rows, 1, i == 7 ? 12 : 0, i == 7 ? 78 : lengths[i], i == 6 ? 62 : 60, loud[i], 1, kinds[i], 0);
        }
    }

    private static void rolls() {
        StyleRows rows = new StyleRows(0);
        int[] pitches = {64, 60, 67, 60, 59, 72};
        int[] marks = {ROLL, ROLL, ROLL | ACCENT, ROLL, 0, ROLL};
        for (int i = 0; i < 6; i++) {
            rows.note(0, 100, 100, pitches[i], marks[i]);
        }
        rows.note(1, 100, 100, 30, ROLL);
        rows.note(0, 101, 100, 31, ROLL);
        rows.perform();
        int[] begins = {124, 100, 136, 112, 100, 148, 100, 101};
        for (int i = 0; i < 8; i++) {
            CHECK.due("15 ROLL: begin " + i, rows.span(i, 1), begins[i]);
            CHECK.due("15 ROLL: end " + i, rows.span(i, 2), i == 1 ? 112 : i == 7 ? 191 : 190);
        }
        Texts.read(rows, "roll 960;");
        rows.perform();
        CHECK.due("15 ROLL by LONG - 1", rows.span(5, 1), 189);
        CHECK.due("15 ROLL, 1 left", rows.span(5, 2), 190);
        Texts.read(rows, "roll 0;");
        rows.perform();
        CHECK.due("15 ROLL by 0", rows.span(5, 1), 100);
    }

    private static void leans() {
        StyleRows rows = performed("", 200, LEAN);
        CHECK.event(rows, 0, 0, 40, 62, 54, 0, 1, 1);
        CHECK.event(rows, 1, 40, 140, 60, 72, 0, 0, 1);
        rows = performed("lean 960;", 100, LEAN | HELD);
        CHECK.event(rows, 0, 0, 50, 62, 54, 0, 1, 1);
        CHECK.event(rows, 1, 50, 50, 60, 72, 0, 0, 1);
        rows = performed("", 3, LEAN);
        CHECK.event(rows, 0, 0, 1, 62, 54, 0, 1, 1);
        CHECK.event(rows, 1, 1, 2, 60, 72, 0, 0, 1);
        CHECK.due("15 LEAN in 1", performed("", 1, LEAN).count(4), 1);
        CHECK.due("15 lean 0", performed("lean 0;", 100, LEAN).count(4), 1);
        rows = styled("first 0;");
        rows.level(0, 1, false);
        rows.note(0, 0, 100, 115, LEAN);
        rows.perform();
        CHECK.event(rows, 0, 0, 40, 117, 1, 0, 1, 0);
    }

    private static void trills() {
        trill("trill 25;upper 0;", 100, 3, 60, 50);
        trill("trill 25;upper 1;", 100, 4, 62, 25);
        trill("trill 20;upper 0;", 100, 5, 60, 20);
        trill("trill 20;upper 1;", 100, 4, 62, 40);
        trill("trill 30;upper 0;", 100, 3, 60, 40);
        trill("trill 30;upper 1;", 100, 2, 62, 70);
        trill("trill 50;upper 0;", 100, 1, 60, 100);
        trill("trill 50;upper 1;", 100, 2, 62, 50);
        StyleRows rows = performed("trill 51;", 100, TRILL | HELD);
        CHECK.event(rows, 0, 0, 100, 60, 72, 0, 0, 1);
        rows = performed("trill 51;", 100, TRILL | TURN | HELD);
        CHECK.due("15 TURN where a TRILL does not fit", rows.count(4), 3);
        rows = performed("trill 50;", 100, TRILL | TURN | HELD);
        CHECK.due("15 no TURN with a TRILL", rows.count(4), 1);
        CHECK.due("15 kind 2", rows.event(0, 5), 2);
    }

    private static void trill(String text, int length, int parts, int first, int lastLength) {
        StyleRows rows = performed(text, length, TRILL | HELD);
        CHECK.due("15 " + text + " parts", rows.count(4), parts);
        int each = rows.value(1, 7);
        int pitch = first;
        for (int i = 0; i < parts; i++) {
            CHECK.event(rows, i, i * each, i == parts - 1 ? lastLength : each, pitch, 72, 0, 2, 1);
            pitch = 122 - pitch;
        }
        CHECK.due("15 " + text + " last", rows.event(parts - 1, 2), 60);
    }

    private static void turns() {
        StyleRows rows = performed("", 100, TURN | HELD);
        CHECK.event(rows, 0, 0, 20, 60, 72, 0, 3, 1);
        CHECK.event(rows, 1, 20, 20, 58, 72, 0, 3, 1);
        CHECK.event(rows, 2, 40, 60, 60, 72, 0, 3, 1);
        rows = performed("turn 960;", 11, TURN | HELD);
        CHECK.event(rows, 0, 0, 3, 60, 72, 0, 3, 1);
        CHECK.event(rows, 1, 3, 3, 58, 72, 0, 3, 1);
        CHECK.event(rows, 2, 6, 5, 60, 72, 0, 3, 1);
        CHECK.due("15 TURN in 3", performed("", 3, TURN).count(4), 3);
        CHECK.due("15 TURN in 2", performed("", 2, TURN).count(4), 1);
    }

    private static void together() {
        StyleRows rows = styled("roll 10;lean 30;trill 20;");
        rows.note(0, 240, 100, 60, ROLL);
        rows.note(0, 240, 100, 70, 127 - SHORT);
        rows.perform();
        CHECK.due("15 together", rows.count(4), 5);
        CHECK.event(rows, 0, 240, 90, 60, 68, 0, 0, 0);
        CHECK.event(rows, 1, 250, 30, 72, 63, 1, 1, 0);
        CHECK.event(rows, 2, 280, 20, 70, 84, 1, 2, 0);
        CHECK.event(rows, 3, 300, 20, 72, 84, 1, 2, 0);
        CHECK.event(rows, 4, 320, 20, 70, 84, 1, 2, 0);
    }

    private static void bent() {
        StyleRows rows = styled("");
        rows.note(0, 240, 240, 60, HELD);
        rows.note(1, 720, 240, 60, HELD);
        rows.arc(0, 480, -100);
        rows.arc(480, 960, 200);
        rows.perform();
        CHECK.event(rows, 0, 140, 340, 60, 68, 0, 0, 0);
        CHECK.event(rows, 1, 920, 40, 60, 68, 1, 0, 1);
        rows = styled("trill 20;");
        rows.note(0, 0, 100, 60, HELD | TRILL);
        rows.arc(0, 100, -400);
        rows.perform();
        CHECK.event(rows, 0, -344, 20, 60, 72, 0, 2, 0);
        CHECK.event(rows, 1, -324, 88, 62, 72, 0, 2, 0);
        CHECK.event(rows, 2, -236, 1, 62, 72, 0, 2, 0);
        CHECK.event(rows, 3, -176, 176, 60, 72, 0, 2, 0);
        CHECK.event(rows, 4, 0, 1, 60, 72, 0, 2, 0);
        CHECK.due("17 below 0", rows.sounding(-300), 1);
        CHECK.due("18 below 0", rows.span(0, 1), -344);
        CHECK.due("18 the last of all", rows.span(0, 2), 1);
    }

    /** Where TIME runs back, the EVENT that ends last need not be the last one in order. */
    private static void endsLast() {
        StyleRows rows = styled("lean 20;");
        rows.note(0, 20, 60, 60, HELD | LEAN);
        rows.arc(20, 60, -400);
        rows.perform();
        CHECK.event(rows, 0, -360, 440, 60, 64, 0, 0, 0);
        CHECK.event(rows, 1, 20, 1, 62, 48, 0, 1, 0);
        CHECK.due("18 the first of two begins", rows.span(0, 1), -360);
        CHECK.due("18 the first in order ends last", rows.span(0, 2), 80);
        rows = styled("");
        rows.arc(0, 22, 15);
        rows.note(0, 1, 30, 15, HELD | TURN);
        rows.perform();
        CHECK.event(rows, 0, 3, 20, 15, 64, 0, 3, 0);
        CHECK.event(rows, 1, 23, 8, 15, 64, 0, 3, 0);
        CHECK.event(rows, 2, 26, 1, 13, 64, 0, 3, 0);
        CHECK.due("18 the first of three begins", rows.span(0, 1), 3);
        CHECK.due("18 one in the middle ends last", rows.span(0, 2), 31);
    }

    /** An end may stand below 0, where NONE stands too. */
    private static void endsBelowNone() {
        StyleRows rows = styled("");
        rows.arc(0, 100, -400);
        rows.note(0, 40, 10, 60, HELD);
        rows.note(0, 9600, 10, 60, HELD);
        rows.perform();
        CHECK.event(rows, 0, -344, 1, 60, 64, 0, 0, 0);
        CHECK.due("18 begins below 0", rows.span(0, 1), -344);
        CHECK.due("18 ends below 0", rows.span(0, 2), -343);
        CHECK.due("18 of the other NOTE", rows.span(1, 2), 9610);
        rows = styled("lean 10;");
        rows.arc(0, 100, -400);
        rows.note(0, 30, 45, 60, HELD | LEAN);
        rows.perform();
        CHECK.event(rows, 0, -344, 119, 60, 64, 0, 0, 0);
        CHECK.event(rows, 1, -306, 1, 62, 48, 0, 1, 0);
        CHECK.due("18 the last of two ends below 0", rows.span(0, 2), -225);
    }

    private static void order() {
        StyleRows rows = new StyleRows(0);
        rows.note(1, 10, 50, 60, 0);
        rows.note(0, 10, 50, 70, 0);
        rows.note(0, 10, 50, 65, 0);
        rows.note(0, 10, 50, 65, HELD);
        rows.note(3, 9, 50, 80, 0);
        rows.perform();
        int[] notes = {4, 2, 3, 1, 0};
        int[] voices = {3, 0, 0, 0, 1};
        for (int i = 0; i < 5; i++) {
            CHECK.due("15 order, note " + i, rows.event(i, 4), notes[i]);
            CHECK.due("15 order, voice " + i, rows.event(i, 6), voices[i]);
        }
        CHECK.due("15 alike beginnings do not end one another", rows.event(1, 1), 45);
    }

    private static void repeats() {
        StyleRows rows = new StyleRows(0);
        rows.note(0, 0, 900, 60, HELD);
        rows.note(0, 500, 100, 60, HELD);
        rows.note(0, 300, 700, 60, HELD);
        rows.note(0, 300, 100, 60, HELD);
        rows.note(1, 100, 100, 60, HELD);
        rows.note(0, 100, 100, 61, HELD);
        rows.note(0, 600, 100, 60, HELD);
        rows.perform();
        int[] ends = {300, 600, 500, 400, 200, 200, 700};
        for (int i = 0; i < ends.length; i++) {
            CHECK.due("15 repeats, note " + i, rows.span(i, 2), ends[i]);
        }
    }

    private static void room() {
        StyleRows rows = styled("trill 2;");
        rows.note(0, 0, 796, 60, TRILL | HELD);
        rows.note(0, 0, 3, 60, HELD);
        rows.note(0, 0, 3, 60, HELD);
        CHECK.due("15 397 and 2", rows.perform(), 399);
        rows.mark(2, LEAN | HELD);
        CHECK.due("15 400", rows.perform(), 400);
        CHECK.due("17 at 0", rows.sounding(0), 3);
        CHECK.due("18 of 400", rows.span(0, 0), 397);
        rows.note(0, 0, 1, 60, HELD);
        CHECK.due("18 none of 400", rows.span(3, 0), 0);
        CHECK.due("18 none of 400", rows.span(3, 1), StyleRows.NONE);
        CHECK.due("18 none of 400", rows.span(3, 2), StyleRows.NONE);
        CHECK.due("15 401", rows.perform(), StyleRows.ROOM);
        CHECK.due("15 those of before stay", rows.count(4), 400);
        CHECK.due("15 those of before stay", rows.span(3, 0), 0);
        rows.mark(2, HELD);
        CHECK.due("15 again", rows.perform(), 400);
        CHECK.due("15 again", rows.span(3, 0), 1);
        StyleRows most = styled("trill 1;");
        CHECK.due("15 one", most.note(0, 0, 10, 60, 0), 0);
        CHECK.due("15 one", most.perform(), 1);
        for (int i = 1; i < 48; i++) {
            most.note(0, 0, 960, 60, 127);
        }
        CHECK.due("15 far too many", most.perform(), StyleRows.ROOM);
        CHECK.due("16 those of before stay", most.event(0, 1), 10);
    }

    private static void stays() {
        StyleRows rows = new StyleRows(0);
        rows.note(0, 100, 100, 60, 0);
        rows.perform();
        rows.mark(0, TURN);
        rows.level(0, 1, false);
        rows.meter(1, 1);
        rows.arc(0, 200, 100);
        rows.note(0, 0, 500, 60, 0);
        Texts.read(rows, "plain 1;");
        CHECK.due("16 stays", rows.count(4), 1);
        CHECK.event(rows, 0, 100, 90, 60, 64, 0, 0, 0);
        CHECK.due("18 of a note behind it", rows.span(1, 0), 0);
        CHECK.due("18 of a note behind it", rows.span(1, 1), StyleRows.NONE);
        CHECK.due("18 of a note behind it", rows.span(1, 2), StyleRows.NONE);
    }

    private static void asked() {
        StyleRows rows = new StyleRows(0);
        CHECK.due("15 nothing", rows.perform(), 0);
        rows.note(0, 100, 100, 60, LEAN | HELD);
        rows.note(0, 150, 100, 70, HELD);
        CHECK.due("15 three", rows.perform(), 3);
        int[][] wrong = {{-1, 0}, {3, 0}, {0, -1}, {0, 7}, {Integer.MAX_VALUE, 0}, {0, Integer.MIN_VALUE}};
        for (int[] w : wrong) {
            CHECK.due("16 unknown", rows.event(w[0], w[1]), StyleRows.UNKNOWN);
        }
        int[] times = {Integer.MIN_VALUE, 99, 100, 139, 140, 149, 150, 199, 200, 249, 250, Integer.MAX_VALUE};
        int[] sounding = {0, 0, 1, 1, 1, 1, 2, 2, 1, 1, 0, 0};
        for (int i = 0; i < times.length; i++) {
            CHECK.due("17 sounding(" + times[i] + ")", rows.sounding(times[i]), sounding[i]);
        }
        CHECK.due("18 how many", rows.span(0, 0), 2);
        CHECK.due("18 begins", rows.span(0, 1), 100);
        CHECK.due("18 ends", rows.span(0, 2), 200);
        CHECK.due("18 no note", rows.span(2, 0), StyleRows.UNKNOWN);
        CHECK.due("18 no note", rows.span(-1, 0), StyleRows.UNKNOWN);
        CHECK.due("18 no what", rows.span(0, 3), StyleRows.UNKNOWN);
        CHECK.due("18 no what", rows.span(0, -1), StyleRows.UNKNOWN);
        rows.level(5, 5, true);
        rows.level(6, 5, true);
        rows.level(7, 5, true);
        rows.level(8, 5, true);
        rows.arc(0, 1, 0);
        Texts.read(rows, "beat 1;beat 1;beat 1;beat 1;beat 1;");
        rows.feed(7, 0);
        int[] counts = {2, 4, 1, 5, 3, 7};
        for (int what = 0; what < 6; what++) {
            CHECK.due("19 count(" + what + ")", rows.count(what), counts[what]);
        }
        CHECK.due("19 no what", rows.count(-1), StyleRows.UNKNOWN);
        CHECK.due("19 no what", rows.count(6), StyleRows.UNKNOWN);
    }
}
