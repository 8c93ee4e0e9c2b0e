import java.util.HashSet;
import java.util.Set;

/** The boundary cases of promises 15 to 19, a method for each sentence of the document that names one. */
public final class PerformanceEdgesTest {
    private static final int SHORT = 1, HELD = 2, ACCENT = 4, TRILL = 8, TURN = 16, LEAN = 32, ROLL = 64;
    private static final Check CHECK = new Check("PerformanceEdgesTest");

    public static void main(String[] args) {
        performNothing();
        performFewer();
        shareDownward();
        shareInBounds();
        shortAheadOfHeld();
        leastOrThat();
        leastOrLength();
        loudAtMost();
        loudAtLeast();
        accentInBounds();
        barElseBeat();
        looseAboveNought();
        looseWraps();
        looseNotBelowNought();
        looseOfItsNumber();
        rollByLesser();
        rollLeavesOne();
        rollCounts();
        rollOfMany();
        leanAboveNought();
        leanByLesser();
        leanLoudAtLeast();
        leanPitch();
        trillTwoOrMore();
        trillOneLess();
        trillTakesWhatIsLeft();
        trillSmallest();
        trillBehindLean();
        turnThreeOrMore();
        turnByLesser();
        turnBehindLean();
        elsePartOfKindNought();
        tickAtLeast();
        timesBelowNought();
        inOrderOfTime();
        inOrderAmongAlikeOnes();
        inOrderAsPartsCame();
        endsWhereAnotherBegins();
        endsAtFirstSuch();
        endsWithinItsNote();
        alikeBeginningsEndNone();
        othersEndNone();
        eventsAtMost();
        eventsAtMostOfMany();
        eventsStay();
        eventNumbers();
        soundingEdges();
        spanNumbers();
        spanWithoutAny();
        spanOfMany();
        spanBelowNought();
        countNumbers();
        countsFull();
        CHECK.end();
    }

    private static StyleRows styled(String text) {
        StyleRows rows = new StyleRows(0);
        CHECK.due("style " + text, Texts.read(rows, text) >= 0 ? 1 : 0, 1);
        return rows;
    }

    /** One NOTE that begins no BEAT, PERFORMED. */
    private static StyleRows one(String text, int length, int marks) {
        StyleRows rows = styled(text);
        rows.note(0, 1, length, 60, marks);
        rows.perform();
        return rows;
    }

    /** The EVENTS' kinds and lengths of one NOTE that begins at tick 1 and of no other one. */
    private static void parts(String what, StyleRows rows, int kind, int... lengths) {
        CHECK.due(what + ", how many", rows.count(4), lengths.length);
        int begin = 1;
        for (int i = 0; i < lengths.length; i++) {
            CHECK.due(what + ", begin of " + i, rows.event(i, 0), begin);
            CHECK.due(what + ", length of " + i, rows.event(i, 1), lengths[i]);
            CHECK.due(what + ", kind of " + i, rows.event(i, 5), kind);
            begin += lengths[i];
        }
    }

    /** No NOTES. */
    private static void performNothing() {
        StyleRows rows = new StyleRows(0);
        rows.level(0, 1, false);
        rows.arc(0, 1, 1);
        CHECK.due("15 no NOTES", rows.perform(), 0);
        CHECK.due("15 no NOTES", rows.count(4), 0);
        CHECK.due("16 no EVENTS", rows.event(0, 0), StyleRows.UNKNOWN);
        CHECK.due("17 no EVENTS", rows.sounding(0), 0);
        CHECK.due("15 a NOTE", rows.note(0, 0, 1, 60, 0), 0);
        CHECK.due("15 one NOTE", rows.perform(), 1);
        CHECK.due("15 once more, in place of those", rows.perform(), 1);
    }

    /** Fewer EVENTS than before: of those nothing is left. */
    private static void performFewer() {
        StyleRows rows = new StyleRows(0);
        rows.note(0, 1, 90, 60, HELD | LEAN);
        CHECK.due("15 two", rows.perform(), 2);
        CHECK.event(rows, 1, 41, 50, 60, 64, 0, 0, 0);
        rows.mark(0, HELD);
        CHECK.due("15 one", rows.perform(), 1);
        CHECK.event(rows, 0, 1, 90, 60, 64, 0, 0, 0);
        CHECK.due("16 no second any more", rows.event(1, 0), StyleRows.UNKNOWN);
        CHECK.due("17 one sounds", rows.sounding(50), 1);
        CHECK.due("18 one is its", rows.span(0, 0), 1);
        CHECK.due("18 its begin", rows.span(0, 1), 1);
        CHECK.due("18 its end", rows.span(0, 2), 91);
        CHECK.due("19 one", rows.count(4), 1);
    }

    /** "LENGTH * share / 100", downward. */
    private static void shareDownward() {
        parts("15 90 of 11", one("least 1;", 11, 0), 0, 9);
        parts("15 90 of 10", one("least 1;", 10, 0), 0, 9);
        parts("15 50 of 3", one("least 1;", 3, SHORT), 0, 1);
        parts("15 99 of 960", one("plain 99;", 960, 0), 0, 950);
        parts("15 99 of 99", one("plain 99;", 99, 0), 0, 98);
        parts("15 100 of 960", one("", 960, HELD), 0, 960);
    }

    /** Shares of 1 and of 100. */
    private static void shareInBounds() {
        String[] words = {"plain", "short", "held"};
        for (int marks = 0; marks < 3; marks++) {
            parts("15 1 of 960", one(words[marks] + " 1;least 1;", 960, marks), 0, 9);
            parts("15 100 of 959", one(words[marks] + " 100;least 1;", 959, marks), 0, 959);
            parts("15 1 of 99", one(words[marks] + " 1;least 1;", 99, marks), 0, 1);
            parts("15 1 of 200", one(words[marks] + " 1;least 1;", 200, marks), 0, 2);
        }
    }

    /** "short with SHORT, else held with HELD, else plain". */
    private static void shortAheadOfHeld() {
        String style = "short 10;held 20;plain 30;";
        parts("15 neither", one(style, 100, 0), 0, 30);
        parts("15 SHORT", one(style, 100, SHORT), 0, 10);
        parts("15 HELD", one(style, 100, HELD), 0, 20);
        parts("15 both", one(style, 100, SHORT | HELD), 0, 10);
    }

    /** "if that is below the lesser of least and LENGTH, that": least is the lesser. */
    private static void leastOrThat() {
        parts("15 one below least", one("least 46;", 90, SHORT), 0, 46);
        parts("15 just least", one("least 45;", 90, SHORT), 0, 45);
        parts("15 one above least", one("least 44;", 90, SHORT), 0, 45);
        parts("15 least 1 of 1", one("least 1;short 1;", 1, SHORT), 0, 1);
        parts("15 least 1 of 199", one("least 1;short 1;", 199, SHORT), 0, 1);
    }

    /** "the lesser of least and LENGTH": LENGTH is the lesser. */
    private static void leastOrLength() {
        parts("15 LENGTH below least", one("", 9, 0), 0, 9);
        parts("15 LENGTH at least", one("", 10, 0), 0, 10);
        parts("15 LENGTH above least", one("", 11, 0), 0, 10);
        parts("15 LENGTH above least", one("", 12, 0), 0, 10);
        parts("15 LENGTH far above least", one("", 13, 0), 0, 11);
        parts("15 LENGTH 1", one("", 1, SHORT), 0, 1);
        parts("15 least 960", one("least 960;short 1;", 959, SHORT), 0, 959);
        parts("15 least 960", one("least 960;short 1;", 960, SHORT), 0, 960);
    }

    private static void isLoud(String what, String style, int level, int start, int marks, int want) {
        StyleRows rows = styled(style);
        rows.level(0, level, false);
        rows.note(0, start, 1, 60, marks);
        rows.perform();
        CHECK.due(what, rows.event(0, 3), want);
    }

    /** "127 at most". */
    private static void loudAtMost() {
        isLoud("15 first, 126", "", 118, 0, 0, 126);
        isLoud("15 first, 127", "", 119, 0, 0, 127);
        isLoud("15 first, 128", "", 120, 0, 0, 127);
        isLoud("15 beat, 127", "", 123, 240, 0, 127);
        isLoud("15 beat, 128", "", 124, 240, 0, 127);
        isLoud("15 ACCENT, 126", "", 110, 1, ACCENT, 126);
        isLoud("15 ACCENT, 127", "", 111, 1, ACCENT, 127);
        isLoud("15 ACCENT, 128", "", 112, 1, ACCENT, 127);
        isLoud("15 LEVEL, 127", "", 127, 1, 0, 127);
        isLoud("15 all together", "accent 127;first 127;", 127, 0, ACCENT, 127);
    }

    /** "1 at least". */
    private static void loudAtLeast() {
        isLoud("15 LEVEL 1", "", 1, 1, 0, 1);
        isLoud("15 LEVEL 1, nothing more", "accent 0;first 0;", 1, 0, ACCENT, 1);
        isLoud("15 LEVEL 2", "", 2, 1, 0, 2);
    }

    /** "accent 16 (0 .. 127), first 8 (0 .. 127), beat 4 (0 .. 127)" at their bounds. */
    private static void accentInBounds() {
        isLoud("15 accent 0", "accent 0;", 50, 1, ACCENT, 50);
        isLoud("15 accent 127", "accent 127;", 50, 1, ACCENT, 127);
        isLoud("15 accent 127 of none", "accent 127;", 50, 1, 0, 50);
        isLoud("15 first 0 is not beat", "first 0;beat 9;", 50, 0, 0, 50);
        isLoud("15 first 127", "first 127;", 1, 0, 0, 127);
        isLoud("15 beat 0", "beat 0;", 50, 240, 0, 50);
        isLoud("15 beat 127", "beat 127;", 1, 240, 0, 127);
    }

    /** "first more, if START begins a BAR, else beat more, if it begins a BEAT". */
    private static void barElseBeat() {
        int[] starts = {0, 1, 239, 240, 241, 480, 720, 959, 960, 961, 9360, 9599, 9600};
        int[] want = {72, 64, 64, 68, 64, 68, 68, 64, 72, 64, 68, 64, 72};
        for (int i = 0; i < starts.length; i++) {
            isLoud("15 START " + starts[i], "", 64, starts[i], 0, want[i]);
        }
        StyleRows rows = styled("loose 99;");
        rows.note(0, 240, 1, 60, 0);
        rows.note(0, 240, 1, 60, 0);
        rows.perform();
        CHECK.due("15 START, not ON", rows.event(0, 3), 68);
        CHECK.due("15 START, not ON", rows.event(1, 3), 68);
    }

    /** "if n (loose) is above 0": "by 2 n + 1, less n". */
    private static void looseAboveNought() {
        for (int n : new int[] {0, 1, 2, 98, 99}) {
            StyleRows rows = styled("loose " + n + ";");
            Set<Integer> seen = new HashSet<>();
            for (int i = 0; i < 48; i++) {
                rows.note(i % 4, 9600 - i, 1, 60, 0);
            }
            rows.perform();
            for (int i = 0; i < 48; i++) {
                int more = rows.span(i, 1) - (9600 - i);
                seen.add(more);
                CHECK.due("15 loose " + n + ", NOTE " + i, more, Draws.of(0, i, n));
                CHECK.due("15 loose " + n + ", within", Math.abs(more) <= n ? 1 : 0, 1);
            }
            CHECK.due("15 loose " + n + ", all of the small ones are drawn", seen.size(), n < 3 ? 2 * n + 1 : seen.size());
        }
    }

    /** "all of 64 bits, wrapping"; "to the right, 0s come in". */
    private static void looseWraps() {
        long[] seeds = {
            0, -1, 1, Long.MAX_VALUE, Long.MIN_VALUE, -0x9E3779B97F4A7C15L, 0x61C8864680B583EAL, 0x61C8864680B583EBL,
            0x61C8864680B583ECL, 1L << 62, -1L << 62, 0x5555555555555555L, 0xAAAAAAAAAAAAAAAAL
        };
        for (long seed : seeds) {
            StyleRows rows = new StyleRows(seed);
            Texts.read(rows, "loose 99;");
            for (int i = 0; i < 48; i++) {
                rows.note(0, 1000 + 10 * i, 1, 60, 0);
            }
            rows.perform();
            for (int i = 0; i < 48; i++) {
                CHECK.due("15 SEED " + seed + ", NOTE " + i, rows.span(i, 1), 1000 + 10 * i + Draws.of(seed, i, 99));
            }
        }
    }

    /** "but not below 0". */
    private static void looseNotBelowNought() {
        int tried = 0;
        for (long seed = 0; seed < 20; seed++) {
            int draw = Draws.of(seed, 0, 99);
            for (int start = Math.max(0, -draw - 2); start <= Math.max(2, -draw + 2); start++) {
                StyleRows rows = new StyleRows(seed);
                Texts.read(rows, "loose 99;");
                rows.note(0, start, 20, 60, HELD);
                rows.perform();
                CHECK.due("15 START " + start + " and " + draw, rows.event(0, 0), start + draw < 0 ? 0 : start + draw);
                CHECK.due("15 LONG stays", rows.event(0, 1), 20);
                tried += start + draw < 0 ? 1 : 0;
            }
        }
        CHECK.due("15 some would be below 0", tried > 10 ? 1 : 0, 1);
    }

    /** "(its number and 1)": the 48th NOTE's, too; and loose of its VOICE alone. */
    private static void looseOfItsNumber() {
        StyleRows rows = new StyleRows(9);
        Texts.read(rows, "voice 2 loose 99;voice 1 loose 0 rank 9;");
        for (int i = 0; i < 47; i++) {
            rows.note(1, 5000, 1, 60, 0);
        }
        rows.note(2, 5000, 1, 60, 0);
        rows.perform();
        CHECK.due("15 loose of another VOICE", rows.span(46, 1), 5000);
        CHECK.due("15 the 48th NOTE", rows.span(47, 1), 5000 + Draws.of(9, 47, 99));
    }

    /** Two rolled NOTES at tick 1: where the upper one begins and how long it is. */
    private static void rolled(int roll, int length, int begin, int left) {
        StyleRows rows = styled("roll " + roll + ";");
        rows.note(0, 1, length, 50, HELD | ROLL);
        rows.note(0, 1, length, 60, HELD | ROLL);
        rows.perform();
        String what = "15 roll " + roll + " of " + length;
        CHECK.due(what + ", the lower one", rows.span(0, 1), 1);
        CHECK.due(what + ", the lower one's end", rows.span(0, 2), 1 + length);
        CHECK.due(what + ", the upper one", rows.span(1, 1), begin);
        CHECK.due(what + ", the upper one's end", rows.span(1, 2), begin + left);
    }

    /** "by the lesser of k * roll and LONG - 1 ON is more, LONG less". */
    private static void rollByLesser() {
        rolled(0, 20, 1, 20);
        rolled(1, 20, 2, 19);
        rolled(18, 20, 19, 2);
        rolled(19, 20, 20, 1);
        rolled(20, 20, 20, 1);
        rolled(21, 20, 20, 1);
        rolled(960, 960, 960, 1);
        rolled(959, 960, 960, 1);
        rolled(958, 960, 959, 2);
    }

    /** "LONG - 1" of a LONG of 1 or 2. */
    private static void rollLeavesOne() {
        rolled(12, 1, 1, 1);
        rolled(960, 1, 1, 1);
        rolled(12, 2, 2, 1);
        rolled(1, 2, 2, 1);
        rolled(0, 1, 1, 1);
    }

    /** "how many NOTES with ROLL of its VOICE and START have a lesser PITCH, or the same and a lesser number". */
    private static void rollCounts() {
        StyleRows rows = new StyleRows(0);
        int[][] notes = {
            {0, 100, 60, ROLL}, {0, 100, 60, ROLL}, {0, 100, 59, ROLL}, {0, 100, 61, ROLL}, {0, 100, 12, 127 - ROLL},
            {1, 100, 12, ROLL}, {0, 99, 12, ROLL}, {0, 101, 12, ROLL}, {0, 100, 60, ROLL}, {0, 100, 115, HELD}
        };
        int[] begins = {112, 124, 100, 148, 100, 100, 99, 101, 136, 100};
        for (int[] n : notes) {
            rows.note(n[0], n[1], 100, n[2], n[3]);
        }
        rows.perform();
        for (int i = 0; i < begins.length; i++) {
            CHECK.due("15 ROLL of NOTE " + i, rows.span(i, 1), begins[i]);
        }
    }

    /** k from 0 to 47. */
    private static void rollOfMany() {
        StyleRows rows = styled("roll 20;");
        for (int i = 0; i < 48; i++) {
            rows.note(3, 0, 960, 60 - i, HELD | ROLL);
        }
        rows.perform();
        for (int i = 0; i < 48; i++) {
            CHECK.due("15 ROLL, k is " + (47 - i), rows.span(i, 1), 20 * (47 - i));
            CHECK.due("15 ROLL, its end", rows.span(i, 2), 960);
        }
        Texts.read(rows, "roll 960;");
        rows.perform();
        CHECK.due("15 ROLL, most", rows.span(0, 1), 959);
        CHECK.due("15 ROLL, least", rows.span(47, 1), 0);
    }

    private static void leaned(String style, int length, int lean, int left) {
        StyleRows rows = one(style, length, HELD | LEAN);
        String what = "15 LEAN of " + length + ", " + style;
        CHECK.due(what, rows.count(4), lean > 0 ? 2 : 1);
        int last = lean > 0 ? 1 : 0;
        if (lean > 0) {
            CHECK.event(rows, 0, 1, lean, 62, 48, 0, 1, 0);
        }
        CHECK.event(rows, last, 1 + lean, left, 60, 64, 0, 0, 0);
    }

    /** "if that is above 0". */
    private static void leanAboveNought() {
        leaned("", 1, 0, 1);
        leaned("", 2, 1, 1);
        leaned("", 3, 1, 2);
        leaned("lean 0;", 2, 0, 2);
        leaned("lean 0;", 960, 0, 960);
        leaned("lean 1;", 1, 0, 1);
        leaned("lean 1;", 960, 1, 959);
    }

    /** "the lesser of lean and LONG / 2". */
    private static void leanByLesser() {
        leaned("", 78, 39, 39);
        leaned("", 79, 39, 40);
        leaned("", 80, 40, 40);
        leaned("", 81, 40, 41);
        leaned("", 82, 40, 42);
        leaned("lean 960;", 960, 480, 480);
        leaned("lean 960;", 959, 479, 480);
    }

    /** "LOUD * 3 / 4 (1 at least)". */
    private static void leanLoudAtLeast() {
        int[] loud = {1, 2, 3, 4, 5, 126, 127};
        int[] want = {1, 1, 2, 3, 3, 94, 95};
        for (int i = 0; i < loud.length; i++) {
            StyleRows rows = new StyleRows(0);
            rows.level(0, loud[i], false);
            rows.note(0, 1, 100, 60, LEAN);
            rows.perform();
            CHECK.due("15 LEAN, LOUD " + loud[i], rows.event(0, 3), want[i]);
            CHECK.due("15 LOUD behind it", rows.event(1, 3), loud[i]);
        }
    }

    /** PITCH 2 more than the greatest, 2 less than the least. */
    private static void leanPitch() {
        StyleRows rows = styled("upper 1;");
        rows.note(0, 1, 100, 115, LEAN | TRILL);
        rows.note(0, 1, 100, 12, TURN);
        rows.perform();
        CHECK.due("15 the least PITCH but 2", rows.event(2, 2), 10);
        CHECK.due("15 the least PITCH", rows.event(0, 2), 12);
        CHECK.due("15 the greatest PITCH and 2", rows.event(1, 2), 117);
    }

    private static void trilled(String style, int length, int first, int... lengths) {
        StyleRows rows = one(style, length, HELD | TRILL);
        String what = "15 TRILL of " + length + ", " + style;
        parts(what, rows, 2, lengths);
        for (int i = 0; i < lengths.length; i++) {
            CHECK.due(what + " PITCH " + i, rows.event(i, 2), i % 2 == 0 ? first : 122 - first);
        }
        CHECK.due(what + " ends on PITCH", rows.event(lengths.length - 1, 2), 60);
    }

    /** "if n = LONG / trill is 2 or more". */
    private static void trillTwoOrMore() {
        parts("15 trill 30 of 59", one("", 59, HELD | TRILL), 0, 59);
        trilled("upper 0;", 60, 60, 60);
        trilled("upper 1;", 60, 62, 30, 30);
        parts("15 trill 30 of 59, upper", one("upper 1;", 59, HELD | TRILL), 0, 59);
        parts("15 trill 960 of 960", one("trill 960;", 960, HELD | TRILL), 0, 960);
        parts("15 trill 481 of 960", one("trill 481;", 960, HELD | TRILL), 0, 960);
        trilled("trill 480;upper 1;", 960, 62, 480, 480);
    }

    /** "n of them, but one less, if the last one would be an upper one". */
    private static void trillOneLess() {
        trilled("upper 0;", 90, 60, 30, 30, 30);
        trilled("upper 0;", 120, 60, 30, 30, 60);
        trilled("upper 0;", 150, 60, 30, 30, 30, 30, 30);
        trilled("upper 1;", 90, 62, 30, 60);
        trilled("upper 1;", 120, 62, 30, 30, 30, 30);
        trilled("upper 1;", 150, 62, 30, 30, 30, 60);
    }

    /** "the last one has what is left of LONG, too". */
    private static void trillTakesWhatIsLeft() {
        trilled("upper 0;", 61, 60, 61);
        trilled("upper 0;", 89, 60, 89);
        trilled("upper 1;", 61, 62, 30, 31);
        trilled("upper 1;", 89, 62, 30, 59);
        trilled("upper 0;", 91, 60, 30, 30, 31);
        trilled("upper 0;", 119, 60, 30, 30, 59);
        trilled("upper 1;", 119, 62, 30, 89);
    }

    /** A trill of 1, a LONG of 1, 2 and 3. */
    private static void trillSmallest() {
        parts("15 trill 1 of 1", one("trill 1;", 1, HELD | TRILL), 0, 1);
        trilled("trill 1;", 2, 60, 2);
        trilled("trill 1;", 3, 60, 1, 1, 1);
        trilled("trill 1;upper 1;", 2, 62, 1, 1);
        trilled("trill 1;upper 1;", 3, 62, 1, 2);
    }

    /** What is LONG behind ROLL and LEAN. */
    private static void trillBehindLean() {
        StyleRows rows = one("", 100, HELD | TRILL | LEAN);
        CHECK.due("15 60 left", rows.count(4), 2);
        CHECK.event(rows, 1, 41, 60, 60, 64, 0, 2, 0);
        rows = one("", 99, HELD | TRILL | LEAN);
        CHECK.due("15 59 left", rows.count(4), 2);
        CHECK.event(rows, 1, 41, 59, 60, 64, 0, 0, 0);
        rows = styled("upper 1;");
        rows.note(0, 1, 100, 50, ROLL);
        rows.note(0, 1, 72, 60, HELD | ROLL | TRILL);
        rows.note(0, 1, 83, 61, HELD | ROLL | TRILL);
        rows.perform();
        CHECK.due("15 60 left behind ROLL", rows.span(1, 0), 2);
        CHECK.due("15 59 left behind ROLL", rows.span(2, 0), 1);
    }

    private static void turned(String style, int length, int first, int last) {
        StyleRows rows = one(style, length, HELD | TURN);
        String what = "15 TURN of " + length + ", " + style;
        parts(what, rows, 3, first, first, last);
        for (int i = 0; i < 3; i++) {
            CHECK.due(what + " PITCH " + i, rows.event(i, 2), i == 1 ? 58 : 60);
        }
    }

    /** "if LONG is 3 or more". */
    private static void turnThreeOrMore() {
        parts("15 TURN of 1", one("", 1, HELD | TURN), 0, 1);
        parts("15 TURN of 2", one("", 2, HELD | TURN), 0, 2);
        turned("", 3, 1, 1);
        turned("", 4, 1, 2);
        turned("", 5, 1, 3);
        turned("", 6, 2, 2);
    }

    /** "t being the lesser of turn and LONG / 3". */
    private static void turnByLesser() {
        turned("", 57, 19, 19);
        turned("", 59, 19, 21);
        turned("", 60, 20, 20);
        turned("", 61, 20, 21);
        turned("", 63, 20, 23);
        turned("turn 1;", 3, 1, 1);
        turned("turn 1;", 960, 1, 958);
        turned("turn 960;", 960, 320, 320);
        turned("turn 960;", 959, 319, 321);
        turned("turn 320;", 959, 319, 321);
        turned("turn 319;", 960, 319, 322);
    }

    /** What is LONG behind LEAN. */
    private static void turnBehindLean() {
        StyleRows rows = one("", 4, HELD | TURN | LEAN);
        CHECK.due("15 2 left", rows.count(4), 2);
        CHECK.event(rows, 1, 3, 2, 60, 64, 0, 0, 0);
        rows = one("", 5, HELD | TURN | LEAN);
        CHECK.due("15 3 left", rows.count(4), 4);
        CHECK.event(rows, 1, 3, 1, 60, 64, 0, 3, 0);
    }

    /** "Else, with TURN"; "Else one part of kind 0". */
    private static void elsePartOfKindNought() {
        parts("15 TRILL ahead of TURN", one("", 60, HELD | TRILL | TURN), 2, 60);
        parts("15 TURN, where n is 1", one("", 59, HELD | TRILL | TURN), 3, 19, 19, 21);
        parts("15 neither fits", one("", 2, HELD | TRILL | TURN), 0, 2);
        parts("15 no MARKS", one("", 10, 0), 0, 10);
    }

    /** A NOTE of a LENGTH from a tick on, within an ARC from 0 to 4. */
    private static void bent(int by, int start, int length, int begin, int isLong) {
        StyleRows rows = new StyleRows(0);
        rows.arc(0, 4, by);
        rows.note(0, start, length, 60, HELD);
        rows.perform();
        CHECK.event(rows, 0, begin, isLong, 60, start == 0 ? 72 : 64, 0, 0, 0);
        CHECK.due("18 its end", rows.span(0, 2), begin + isLong);
        CHECK.due("17 it sounds", rows.sounding(begin), 1);
    }

    /** "1 tick at least": TIME of the end is 2 and 1 behind that of ON, the same, ahead of it. */
    private static void tickAtLeast() {
        bent(-4, 2, 1, -2, 2);
        bent(0, 1, 1, 1, 1);
        bent(-4, 1, 1, -2, 1);
        bent(-8, 1, 1, -5, 1);
        bent(-400, 0, 2, 0, 1);
        bent(-400, 0, 4, 0, 4);
        bent(4, 2, 2, 6, 1);
        bent(2, 2, 2, 4, 1);
        bent(1, 2, 2, 3, 1);
        bent(-1, 2, 2, 1, 3);
    }

    /** TIMES below 0, the answers' other numbers among them. */
    private static void timesBelowNought() {
        StyleRows rows = new StyleRows(0);
        rows.arc(0, 2, -400);
        rows.note(0, 1, 1, 60, HELD);
        rows.perform();
        CHECK.event(rows, 0, -399, 401, 60, 64, 0, 0, 0);
        CHECK.due("17 ahead of it", rows.sounding(-400), 0);
        CHECK.due("17 where it begins", rows.sounding(-399), 1);
        CHECK.due("17 its last tick", rows.sounding(1), 1);
        CHECK.due("17 where it ends", rows.sounding(2), 0);
        CHECK.due("18 where it begins", rows.span(0, 1), -399);
    }

    /** "in order of that beginning": of the TIME, not of the ticks. */
    private static void inOrderOfTime() {
        StyleRows rows = new StyleRows(0);
        rows.arc(0, 100, -400);
        int[] starts = {0, 100, 99, 50, 1, 49};
        for (int start : starts) {
            rows.note(0, start, 1, 60, HELD);
        }
        rows.perform();
        int[] begins = {-351, -350, -15, 0, 83, 100};
        int[] notes = {5, 3, 4, 0, 2, 1};
        for (int i = 0; i < 6; i++) {
            CHECK.due("15 begin of EVENT " + i, rows.event(i, 0), begins[i]);
            CHECK.due("15 NOTE of EVENT " + i, rows.event(i, 4), notes[i]);
        }
    }

    /** "then by VOICES, by PITCHES, by NOTES": the TIMES are alike, the ticks are not. */
    private static void inOrderAmongAlikeOnes() {
        StyleRows rows = new StyleRows(0);
        rows.arc(0, 4, -4);
        int[][] notes = {
            {3, 1, 12}, {0, 2, 115}, {1, 1, 60}, {0, 1, 115}, {0, 2, 114}, {1, 2, 59}, {2, 1, 12}, {1, 2, 60}
        };
        for (int[] n : notes) {
            rows.note(n[0], n[1], 5, n[2], HELD);
        }
        rows.perform();
        int[] want = {4, 1, 3, 5, 2, 7, 6, 0};
        for (int i = 0; i < want.length; i++) {
            CHECK.due("15 begin of EVENT " + i, rows.event(i, 0), -2);
            CHECK.due("15 NOTE of EVENT " + i, rows.event(i, 4), want[i]);
            CHECK.due("15 VOICE of EVENT " + i, rows.event(i, 6), notes[want[i]][0]);
            CHECK.due("15 PITCH of EVENT " + i, rows.event(i, 2), notes[want[i]][2]);
        }
        StyleRows later = new StyleRows(0);
        later.note(3, 0, 1, 12, 0);
        later.note(0, 1, 1, 115, 0);
        later.perform();
        CHECK.due("15 the beginning ahead of the VOICE", later.event(0, 4), 0);
    }

    /** "as its parts came": three parts of a TURN begin at one TIME. */
    private static void inOrderAsPartsCame() {
        StyleRows rows = styled("turn 1;");
        rows.arc(0, 10, 4);
        rows.note(0, 8, 5, 60, HELD | TURN);
        rows.perform();
        CHECK.due("8 TIME of 8", rows.timeOf(8), 10);
        CHECK.due("8 TIME of 9", rows.timeOf(9), 10);
        CHECK.event(rows, 0, 10, 1, 58, 64, 0, 3, 0);
        CHECK.event(rows, 1, 10, 1, 60, 64, 0, 3, 0);
        CHECK.event(rows, 2, 10, 3, 60, 64, 0, 3, 0);
        StyleRows two = styled("turn 1;");
        two.arc(0, 10, 4);
        two.note(0, 10, 2, 60, HELD);
        two.note(0, 8, 5, 60, HELD | TURN);
        two.note(0, 10, 4, 60, HELD);
        two.perform();
        int[] lengths = {1, 2, 1, 3, 4};
        for (int i = 0; i < lengths.length; i++) {
            CHECK.due("15 NOTES ahead of parts, length of " + i, two.event(i, 1), lengths[i]);
        }
    }

    /** A NOTE from 10 to 30 and another one of its VOICE and PITCH from a tick on. */
    private static void meets(int other, int end) {
        for (int turn = 0; turn < 2; turn++) {
            StyleRows rows = new StyleRows(0);
            if (turn == 1) {
                rows.note(0, other, 50, 60, HELD);
            }
            rows.note(0, 10, 20, 60, HELD);
            if (turn == 0) {
                rows.note(0, other, 50, 60, HELD);
            }
            CHECK.due("15 two", rows.perform(), 2);
            CHECK.due("15 another one begins at " + other, rows.span(turn, 1), 10);
            CHECK.due("15 another one begins at " + other, rows.span(turn, 2), end);
            CHECK.due("15 the other one begins", rows.span(1 - turn, 1), other);
            CHECK.due("15 the other one ends", rows.span(1 - turn, 2), other < 10 ? 10 : other + 50);
        }
    }

    /** "during which another one of its VOICE and PITCH begins (later than itself)". */
    private static void endsWhereAnotherBegins() {
        meets(0, 30);
        meets(9, 30);
        meets(10, 30);
        meets(11, 11);
        meets(12, 12);
        meets(29, 29);
        meets(30, 30);
        meets(31, 30);
    }

    /** "where the first such one does begin". */
    private static void endsAtFirstSuch() {
        StyleRows rows = new StyleRows(0);
        int[] starts = {10, 25, 20, 15, 10, 20, 29};
        for (int start : starts) {
            rows.note(0, start, 20, 60, HELD);
        }
        rows.perform();
        int[] ends = {15, 29, 25, 20, 15, 25, 49};
        for (int i = 0; i < ends.length; i++) {
            CHECK.due("15 the first such one, NOTE " + i, rows.span(i, 2), ends[i]);
        }
    }

    /** Parts of one NOTE end one another, too: an ARC has them meet. */
    private static void endsWithinItsNote() {
        StyleRows rows = new StyleRows(0);
        rows.arc(0, 22, 15);
        rows.note(0, 1, 30, 15, HELD | TURN);
        rows.perform();
        CHECK.event(rows, 0, 3, 20, 15, 64, 0, 3, 0);
        CHECK.event(rows, 1, 23, 8, 15, 64, 0, 3, 0);
        CHECK.event(rows, 2, 26, 1, 13, 64, 0, 3, 0);
        StyleRows back = styled("turn 4;");
        back.arc(0, 10, -100);
        back.note(0, 1, 12, 60, HELD | TURN);
        back.perform();
        CHECK.due("8 TIME of 1", back.timeOf(1), -35);
        CHECK.due("8 TIME of 5", back.timeOf(5), -95);
        CHECK.due("8 TIME of 9", back.timeOf(9), -27);
        CHECK.event(back, 0, -95, 68, 58, 64, 0, 3, 0);
        CHECK.event(back, 1, -35, 1, 60, 64, 0, 3, 0);
        CHECK.event(back, 2, -27, 40, 60, 64, 0, 3, 0);
        StyleRows lean = new StyleRows(0);
        lean.note(0, 1, 100, 60, HELD | LEAN);
        lean.note(0, 11, 100, 62, HELD);
        lean.perform();
        CHECK.event(lean, 0, 1, 10, 62, 48, 0, 1, 0);
    }

    /** "(later than itself)": EVENTS that begin at one TIME end none. */
    private static void alikeBeginningsEndNone() {
        StyleRows rows = new StyleRows(0);
        rows.note(0, 10, 20, 60, HELD);
        rows.note(0, 10, 20, 60, HELD);
        rows.note(0, 10, 21, 60, HELD);
        rows.perform();
        int[] lengths = {20, 20, 21};
        for (int i = 0; i < 3; i++) {
            CHECK.event(rows, i, 10, lengths[i], 60, 64, i, 0, 0);
        }
        CHECK.due("17 all three", rows.sounding(10), 3);
        CHECK.due("17 the longest", rows.sounding(30), 1);
        StyleRows drawn = new StyleRows(0);
        drawn.arc(0, 4, -4);
        drawn.note(0, 1, 5, 60, HELD);
        drawn.note(0, 2, 5, 60, HELD);
        drawn.perform();
        CHECK.event(drawn, 0, -2, 8, 60, 64, 0, 0, 0);
        CHECK.event(drawn, 1, -2, 9, 60, 64, 1, 0, 0);
    }

    /** "of its VOICE and PITCH". */
    private static void othersEndNone() {
        StyleRows rows = new StyleRows(0);
        rows.note(1, 10, 20, 60, HELD);
        rows.note(0, 15, 1, 60, HELD);
        rows.note(2, 15, 1, 60, HELD);
        rows.note(1, 15, 1, 59, HELD);
        rows.note(1, 15, 1, 61, HELD);
        rows.perform();
        CHECK.due("15 others end none", rows.span(0, 2), 30);
        rows.note(1, 16, 1, 60, 0);
        rows.perform();
        CHECK.due("15 behind others", rows.span(0, 2), 16);
    }

    private static void trillOfOnes(int length, int upper, int events) {
        StyleRows rows = styled("trill 1;upper " + upper + ";");
        rows.note(0, 0, length, 60, HELD | TRILL);
        CHECK.due("15 " + length + " ones, upper " + upper, rows.perform(), events);
        CHECK.due("19 EVENTS", rows.count(4), Math.max(0, events));
    }

    /** "There are 400 at most": of one NOTE. */
    private static void eventsAtMost() {
        trillOfOnes(399, 0, 399);
        trillOfOnes(400, 0, 399);
        trillOfOnes(401, 0, StyleRows.ROOM);
        trillOfOnes(402, 0, StyleRows.ROOM);
        trillOfOnes(399, 1, 398);
        trillOfOnes(400, 1, 400);
        trillOfOnes(401, 1, 400);
        trillOfOnes(402, 1, StyleRows.ROOM);
        trillOfOnes(960, 0, StyleRows.ROOM);
    }

    /** "There are 400 at most": the one too many is a LEAN, a TURN, another NOTE. */
    private static void eventsAtMostOfMany() {
        int[] marks = {0, LEAN, TURN, LEAN | TURN, TRILL};
        int[] parts = {1, 2, 3, 4, 5};
        for (int i = 0; i < marks.length; i++) {
            for (int ahead = 398; ahead <= 400; ahead += 2) {
                StyleRows rows = styled("voice 0 trill 1;upper 1;voice 1 trill 20;voice 1 upper 0 rank 1;");
                rows.note(0, 0, ahead, 60, HELD | TRILL);
                int second = rows.note(1, 0, marks[i] == TRILL ? 100 : 60, 60, HELD | marks[i]);
                int due = ahead + parts[i] <= 400 ? ahead + parts[i] : StyleRows.ROOM;
                CHECK.due("15 " + ahead + " and " + parts[i], rows.perform(), due);
                rows.mark(second, HELD);
                CHECK.due("15 " + ahead + " and 1", rows.perform(), ahead < 400 ? ahead + 1 : StyleRows.ROOM);
            }
        }
        StyleRows most = styled("trill 1;upper 1;");
        for (int i = 0; i < 48; i++) {
            most.note(i % 4, 0, 960, 60, 127 - SHORT);
        }
        CHECK.due("15 far too many", most.perform(), StyleRows.ROOM);
        CHECK.due("19 none", most.count(4), 0);
    }

    /** "ROOM: those of before stay". */
    private static void eventsStay() {
        StyleRows rows = styled("trill 1;upper 1;");
        rows.note(2, 5, 20, 70, 0);
        rows.note(1, 7, 400, 60, HELD);
        CHECK.due("15 before", rows.perform(), 2);
        rows.mark(1, HELD | TRILL);
        rows.level(0, 9, false);
        rows.arc(0, 10, 5);
        for (int turn = 0; turn < 2; turn++) {
            CHECK.due("15 too many", rows.perform(), StyleRows.ROOM);
            CHECK.due("19 before", rows.count(4), 2);
            CHECK.event(rows, 0, 5, 18, 70, 64, 0, 0, 2);
            CHECK.event(rows, 1, 7, 400, 60, 64, 1, 0, 1);
            CHECK.due("16 no third", rows.event(2, 0), StyleRows.UNKNOWN);
            CHECK.due("17 before", rows.sounding(7), 2);
            CHECK.due("18 before", rows.span(1, 0), 1);
        }
        rows.mark(0, SHORT);
        rows.mark(1, HELD);
        CHECK.due("15 behind", rows.perform(), 2);
        CHECK.event(rows, 0, 10, 5, 70, 9, 0, 0, 2);
    }

    /** "UNKNOWN (no such .. EVENT, what)". */
    private static void eventNumbers() {
        StyleRows none = new StyleRows(0);
        none.note(0, 0, 10, 60, 0);
        CHECK.due("16 nothing PERFORMED yet", none.event(0, 0), StyleRows.UNKNOWN);
        StyleRows rows = new StyleRows(0);
        for (int i = 0; i < 3; i++) {
            rows.note(3, 9, 7, 60, HELD);
        }
        rows.perform();
        int[] want = {9, 7, 60, 64, 0, 0, 3};
        for (int what = 0; what < 7; what++) {
            CHECK.due("16 what " + what, rows.event(0, what), want[what]);
        }
        for (int what : new int[] {0, 1, 2, 3, 5, 6}) {
            int row = what;
            CHECK.bounds("16 EVENT, what " + what, 0, 2, want[what], StyleRows.UNKNOWN, n -> rows.event(n, row));
        }
        CHECK.due("16 NOTE of the last", rows.event(2, 4), 2);
        for (int what : new int[] {-1, 7, 8, Integer.MIN_VALUE, Integer.MAX_VALUE}) {
            CHECK.due("16 what " + what, rows.event(0, what), StyleRows.UNKNOWN);
            CHECK.due("16 what " + what + " of the last", rows.event(2, what), StyleRows.UNKNOWN);
            CHECK.due("16 what " + what + " of none", rows.event(3, what), StyleRows.UNKNOWN);
        }
        StyleRows full = styled("trill 1;upper 1;");
        full.note(0, 0, 400, 60, HELD | TRILL);
        full.perform();
        CHECK.bounds("16 EVENT of 400", 0, 399, 1, StyleRows.UNKNOWN, n -> full.event(n, 1));
    }

    /** "(begun there or before, ended behind it)". */
    private static void soundingEdges() {
        StyleRows rows = new StyleRows(0);
        rows.note(0, 10, 1, 60, HELD);
        rows.note(1, 11, 2, 60, HELD);
        rows.note(2, 9600, 960, 60, HELD);
        rows.perform();
        int[] times = {Integer.MIN_VALUE, -1, 0, 9, 10, 11, 12, 13, 9599, 9600, 10559, 10560, 20001, Integer.MAX_VALUE};
        int[] want = {0, 0, 0, 0, 1, 1, 1, 0, 0, 1, 1, 0, 0, 0};
        for (int i = 0; i < times.length; i++) {
            CHECK.due("17 sounding(" + times[i] + ")", rows.sounding(times[i]), want[i]);
        }
        StyleRows full = styled("trill 1;upper 1;");
        full.note(0, 0, 353, 60, HELD | TRILL);
        for (int i = 0; i < 47; i++) {
            full.note(1, 0, 5, 60, HELD);
        }
        full.perform();
        CHECK.due("17 many", full.sounding(4), 48);
        CHECK.due("17 all but one ended", full.sounding(5), 1);
    }

    /** "UNKNOWN (no such NOTE, .. what)". */
    private static void spanNumbers() {
        CHECK.due("18 no NOTE at all", new StyleRows(0).span(0, 0), StyleRows.UNKNOWN);
        StyleRows rows = new StyleRows(0);
        for (int i = 0; i < 3; i++) {
            rows.note(0, 10, 20, 60 + i, HELD);
        }
        rows.perform();
        CHECK.bounds("18 how many of NOTE", 0, 2, 1, StyleRows.UNKNOWN, n -> rows.span(n, 0));
        CHECK.bounds("18 begin of NOTE", 0, 2, 10, StyleRows.UNKNOWN, n -> rows.span(n, 1));
        CHECK.bounds("18 end of NOTE", 0, 2, 30, StyleRows.UNKNOWN, n -> rows.span(n, 2));
        for (int what : new int[] {-1, 3, Integer.MIN_VALUE, Integer.MAX_VALUE}) {
            CHECK.due("18 what " + what, rows.span(2, what), StyleRows.UNKNOWN);
            CHECK.due("18 what " + what + " of no NOTE", rows.span(3, what), StyleRows.UNKNOWN);
        }
    }

    /** "(both NONE without any)". */
    private static void spanWithoutAny() {
        StyleRows rows = new StyleRows(0);
        rows.note(0, 10, 20, 60, HELD);
        int[] none = {0, StyleRows.NONE, StyleRows.NONE};
        int[] some = {1, 10, 30};
        for (int what = 0; what < 3; what++) {
            CHECK.due("18 nothing PERFORMED yet, what " + what, rows.span(0, what), none[what]);
        }
        rows.perform();
        rows.note(0, 500, 20, 60, HELD);
        for (int what = 0; what < 3; what++) {
            CHECK.due("18 a NOTE behind, what " + what, rows.span(1, what), none[what]);
            CHECK.due("18 the NOTE ahead, what " + what, rows.span(0, what), some[what]);
        }
        rows.perform();
        CHECK.due("18 PERFORMED now", rows.span(1, 0), 1);
        CHECK.due("18 PERFORMED now", rows.span(1, 1), 500);
        CHECK.due("18 PERFORMED now", rows.span(1, 2), 520);
    }

    private static void span(String what, StyleRows rows, int note, int howMany, int begin, int end) {
        CHECK.due("18 " + what + ", how many", rows.span(note, 0), howMany);
        CHECK.due("18 " + what + ", the first begins", rows.span(note, 1), begin);
        CHECK.due("18 " + what + ", the last ends", rows.span(note, 2), end);
    }

    /** "1 where the first begins, 2 where the last ends", of the first in order, of the last, of one between. */
    private static void spanOfMany() {
        StyleRows rows = new StyleRows(0);
        rows.note(0, 100, 100, 60, HELD | LEAN | TURN);
        rows.note(0, 120, 10, 40, HELD);
        rows.perform();
        span("the last in order ends last", rows, 0, 4, 100, 200);
        span("another NOTE between", rows, 1, 1, 120, 130);
        StyleRows back = styled("lean 20;");
        back.note(0, 20, 60, 60, HELD | LEAN);
        back.arc(20, 60, -400);
        back.perform();
        span("the first in order ends last", back, 0, 2, -360, 80);
        StyleRows middle = new StyleRows(0);
        middle.arc(0, 22, 15);
        middle.note(0, 1, 30, 15, HELD | TURN);
        middle.perform();
        span("one between ends last", middle, 0, 3, 3, 31);
    }

    /** NONE is -1, which an end or a beginning may be, too; all may be below it. */
    private static void spanBelowNought() {
        int[][] want = {{-42, -1, 8}, {-51, -9, -1}, {-53, -11, -3}, {-400, -344, -343}};
        for (int[] w : want) {
            StyleRows rows = new StyleRows(0);
            rows.arc(0, 100, w[0]);
            rows.note(0, 40, 10, 60, HELD);
            rows.note(0, 9600, 10, 60, HELD);
            rows.perform();
            span("an ARC by " + w[0], rows, 0, 1, w[1], w[2]);
            span("far behind that ARC", rows, 1, 1, 9600, 9610);
        }
        StyleRows rows = styled("lean 10;");
        rows.arc(0, 100, -400);
        rows.note(0, 30, 45, 60, HELD | LEAN);
        rows.perform();
        span("all below NONE", rows, 0, 2, -344, -225);
    }

    /** "UNKNOWN (no such .. what)". */
    private static void countNumbers() {
        StyleRows rows = new StyleRows(0);
        CHECK.bounds("19 what", 0, 5, 0, StyleRows.UNKNOWN, n -> rows.count(n));
    }

    /** All that can be full. */
    private static void countsFull() {
        StyleRows rows = styled("beat 1;".repeat(22) + "trill 1;upper 1;");
        for (int i = 0; i < 48; i++) {
            rows.note(0, 0, i == 0 ? 353 : 1, 60, i == 0 ? HELD | TRILL : 0);
        }
        for (int i = 0; i < 12; i++) {
            rows.level(i, 1, false);
        }
        for (int i = 0; i < 6; i++) {
            rows.arc(i, i + 1, 1);
        }
        CHECK.due("15 399", rows.perform(), 399);
        rows.mark(1, HELD | LEAN);
        CHECK.due("15 still 399, a LONG of 1 has no LEAN", rows.perform(), 399);
        for (int i = 0; i < 50; i++) {
            rows.feed(8, 0);
        }
        int[] counts = {48, 12, 6, 24, 399, 400};
        for (int what = 0; what < 6; what++) {
            CHECK.due("19 count(" + what + "), full", rows.count(what), counts[what]);
        }
    }
}
