/** Promises 1 to 8. */
public final class ScoreTest {
    private static final Check CHECK = new Check("ScoreTest");

    public static void main(String[] args) {
        newObject();
        notes();
        marks();
        levels();
        swells();
        meters();
        arcs();
        times();
        CHECK.end();
    }

    private static void newObject() {
        StyleRows rows = new StyleRows(Long.MIN_VALUE);
        for (int what = 0; what <= 5; what++) {
            CHECK.due("1 count(" + what + ")", rows.count(what), 0);
        }
        CHECK.due("1 levelAt", rows.levelAt(20000), 64);
        CHECK.due("1 timeOf", rows.timeOf(20000), 20000);
        CHECK.due("1 event", rows.event(0, 0), StyleRows.UNKNOWN);
        CHECK.due("1 sounding", rows.sounding(0), 0);
        CHECK.due("1 span", rows.span(0, 0), StyleRows.UNKNOWN);
        CHECK.due("1 plain", rows.plain(), 0);
        CHECK.due("1 read", rows.read(), 0);
        CHECK.due("1 why", rows.why(0, 0), StyleRows.NONE);
        StyleRows other = new StyleRows(0);
        other.note(0, 0, 1, 12, 0);
        CHECK.due("1 objects are apart", rows.count(0), 0);
    }

    private static void notes() {
        StyleRows rows = new StyleRows(0);
        int[][] wrong = {
            {-1, 0, 1, 12, 0}, {4, 0, 1, 12, 0}, {0, -1, 1, 12, 0}, {0, 9601, 1, 12, 0}, {0, 0, 0, 12, 0},
            {0, 0, 961, 12, 0}, {0, 0, 1, 11, 0}, {0, 0, 1, 116, 0}, {0, 0, 1, 12, -1}, {0, 0, 1, 12, 128},
            {Integer.MAX_VALUE, 0, 1, 12, 0}, {0, 0, Integer.MIN_VALUE, 12, 0},
        };
        for (int[] n : wrong) {
            CHECK.due("2 wrong note", rows.note(n[0], n[1], n[2], n[3], n[4]), StyleRows.OUTSIDE);
        }
        CHECK.due("2 none came", rows.count(0), 0);
        CHECK.due("2 least", rows.note(0, 0, 1, 12, 0), 0);
        CHECK.due("2 most", rows.note(3, 9600, 960, 115, 127), 1);
        for (int i = 2; i < 48; i++) {
            CHECK.due("2 note", rows.note(i % 4, i, i, 60, i), i);
        }
        CHECK.due("2 room", rows.note(0, 0, 1, 12, 0), StyleRows.ROOM);
        CHECK.due("2 outside ahead of room", rows.note(4, 0, 1, 12, 0), StyleRows.OUTSIDE);
        CHECK.due("2 count", rows.count(0), 48);
    }

    private static void marks() {
        StyleRows rows = new StyleRows(0);
        CHECK.due("3 no note", rows.mark(0, 0), StyleRows.UNKNOWN);
        rows.note(0, 0, 100, 60, 5);
        CHECK.due("3 unknown ahead of outside", rows.mark(1, 128), StyleRows.UNKNOWN);
        CHECK.due("3 below", rows.mark(-1, 0), StyleRows.UNKNOWN);
        CHECK.due("3 outside", rows.mark(0, 128), StyleRows.OUTSIDE);
        CHECK.due("3 outside", rows.mark(0, -1), StyleRows.OUTSIDE);
        CHECK.due("3 before", rows.mark(0, 127), 5);
        CHECK.due("3 before", rows.mark(0, 0), 127);
        CHECK.due("3 before", rows.mark(0, 2), 0);
        CHECK.due("3 perform", rows.perform(), 1);
        CHECK.due("3 held now", rows.event(0, 1), 100);
    }

    private static void levels() {
        StyleRows rows = new StyleRows(0);
        CHECK.due("4 outside", rows.level(-1, 1, false), StyleRows.OUTSIDE);
        CHECK.due("4 outside", rows.level(20001, 1, false), StyleRows.OUTSIDE);
        CHECK.due("4 outside", rows.level(0, 0, false), StyleRows.OUTSIDE);
        CHECK.due("4 outside", rows.level(0, 128, true), StyleRows.OUTSIDE);
        for (int i = 12; i >= 1; i--) {
            CHECK.due("4 level", rows.level(i * 100, i, false), 13 - i);
        }
        CHECK.due("4 room", rows.level(50, 1, false), StyleRows.ROOM);
        CHECK.due("4 outside ahead of room", rows.level(50, 0, false), StyleRows.OUTSIDE);
        CHECK.due("4 in place", rows.level(300, 77, false), 12);
        CHECK.due("4 count", rows.count(1), 12);
        CHECK.due("7 ahead", rows.levelAt(99), 64);
        CHECK.due("7 there", rows.levelAt(100), 1);
        CHECK.due("7 to the next", rows.levelAt(199), 1);
        CHECK.due("7 next", rows.levelAt(200), 2);
        CHECK.due("7 in place", rows.levelAt(399), 77);
        CHECK.due("7 last", rows.levelAt(20000), 12);
        CHECK.due("7 outside", rows.levelAt(-1), StyleRows.OUTSIDE);
        CHECK.due("7 outside", rows.levelAt(20001), StyleRows.OUTSIDE);
    }

    private static void swells() {
        StyleRows rows = new StyleRows(0);
        rows.level(1000, 100, true);
        CHECK.due("7 without one it steps", rows.levelAt(999), 64);
        rows.level(1010, 93, true);
        CHECK.due("7 downward", rows.levelAt(1001), 99);
        CHECK.due("7 downward", rows.levelAt(1005), 96);
        CHECK.due("7 downward", rows.levelAt(1009), 93);
        rows.level(1020, 96, true);
        CHECK.due("7 upward swell, quotient downward", rows.levelAt(1013), 93);
        CHECK.due("7 upward swell", rows.levelAt(1014), 94);
        rows.level(1010, 93, false);
        CHECK.due("7 swells no more", rows.levelAt(1009), 100);
        CHECK.due("7 the next still swells", rows.levelAt(1017), 95);
        rows.level(0, 1, false);
        CHECK.due("7 swells now from the one that came", rows.levelAt(500), 50);
        rows.level(0, 1, true);
        rows.level(20000, 127, true);
        CHECK.due("7 last tick", rows.levelAt(20000), 127);
        CHECK.due("7 ahead of the last tick", rows.levelAt(19999), 126);
    }

    private static void meters() {
        StyleRows rows = new StyleRows(0);
        CHECK.due("5 outside", rows.meter(0, 1), StyleRows.OUTSIDE);
        CHECK.due("5 outside", rows.meter(13, 1), StyleRows.OUTSIDE);
        CHECK.due("5 outside", rows.meter(1, 0), StyleRows.OUTSIDE);
        CHECK.due("5 outside", rows.meter(1, 961), StyleRows.OUTSIDE);
        int[] starts = {0, 240, 300, 1900, 9600};
        for (int start : starts) {
            rows.note(0, start, 10, 60, 0);
        }
        rows.perform();
        loud("5 at first", rows, 72, 68, 64, 64, 72);
        CHECK.due("5 meter", rows.meter(3, 100), 1);
        rows.perform();
        loud("5 3 of 100", rows, 72, 64, 72, 68, 72);
        CHECK.due("5 least", rows.meter(1, 1), 1);
        rows.perform();
        loud("5 1 of 1", rows, 72, 72, 72, 72, 72);
        CHECK.due("5 most", rows.meter(12, 960), 1);
        rows.perform();
        loud("5 12 of 960", rows, 72, 64, 64, 64, 68);
    }

    private static void loud(String what, StyleRows rows, int... want) {
        for (int i = 0; i < want.length; i++) {
            CHECK.due(what + ", event " + i, rows.event(i, 3), want[i]);
        }
    }

    private static void arcs() {
        StyleRows rows = new StyleRows(0);
        CHECK.due("6 outside", rows.arc(-1, 10, 0), StyleRows.OUTSIDE);
        CHECK.due("6 outside", rows.arc(0, 20001, 0), StyleRows.OUTSIDE);
        CHECK.due("6 empty", rows.arc(10, 10, 0), StyleRows.OUTSIDE);
        CHECK.due("6 back", rows.arc(11, 10, 0), StyleRows.OUTSIDE);
        CHECK.due("6 outside", rows.arc(0, 10, 401), StyleRows.OUTSIDE);
        CHECK.due("6 outside", rows.arc(0, 10, -401), StyleRows.OUTSIDE);
        CHECK.due("6 arc", rows.arc(100, 200, 400), 1);
        CHECK.due("6 outside ahead of state", rows.arc(150, 160, 401), StyleRows.OUTSIDE);
        CHECK.due("6 the same", rows.arc(100, 200, 1), StyleRows.STATE);
        CHECK.due("6 within", rows.arc(150, 151, 1), StyleRows.STATE);
        CHECK.due("6 around", rows.arc(0, 20000, 1), StyleRows.STATE);
        CHECK.due("6 its beginning", rows.arc(50, 101, 1), StyleRows.STATE);
        CHECK.due("6 its end", rows.arc(199, 300, 1), StyleRows.STATE);
        CHECK.due("6 an end", rows.arc(200, 201, -400), 2);
        CHECK.due("6 an end", rows.arc(0, 100, 3), 3);
        CHECK.due("6 arc", rows.arc(19999, 20000, 3), 4);
        CHECK.due("6 arc", rows.arc(300, 400, 0), 5);
        CHECK.due("6 arc", rows.arc(400, 500, 0), 6);
        CHECK.due("6 state ahead of room", rows.arc(450, 600, 0), StyleRows.STATE);
        CHECK.due("6 room", rows.arc(500, 600, 0), StyleRows.ROOM);
        CHECK.due("6 count", rows.count(2), 6);
        CHECK.due("8 none of six", rows.timeOf(250), 250);
        CHECK.due("8 first of six", rows.timeOf(150), 550);
    }

    private static void times() {
        StyleRows rows = new StyleRows(0);
        CHECK.due("8 straight", rows.timeOf(123), 123);
        rows.arc(0, 480, -100);
        rows.arc(480, 960, 200);
        CHECK.due("8 beginning", rows.timeOf(0), 0);
        CHECK.due("8 middle", rows.timeOf(240), 140);
        CHECK.due("8 downward", rows.timeOf(1), 0);
        CHECK.due("8 downward", rows.timeOf(479), 478);
        CHECK.due("8 shared end", rows.timeOf(480), 480);
        CHECK.due("8 later", rows.timeOf(720), 920);
        CHECK.due("8 downward", rows.timeOf(481), 482);
        CHECK.due("8 end", rows.timeOf(960), 960);
        CHECK.due("8 behind", rows.timeOf(961), 961);
        CHECK.due("8 outside", rows.timeOf(-1), StyleRows.OUTSIDE);
        CHECK.due("8 outside", rows.timeOf(20001), StyleRows.OUTSIDE);
        StyleRows steep = new StyleRows(0);
        steep.arc(0, 10, -400);
        CHECK.due("8 below 0", steep.timeOf(5), -395);
        StyleRows wide = new StyleRows(0);
        wide.arc(0, 20000, -400);
        CHECK.due("8 wide", wide.timeOf(10000), 9600);
        CHECK.due("8 wide", wide.timeOf(19999), 19998);
    }
}
