/** Promises 9 to 14. */
public final class StyleTest {
    private static final Check CHECK = new Check("StyleTest");

    public static void main(String[] args) {
        feeds();
        texts();
        bounds();
        faults();
        manyRules();
        rules();
        counting();
        unknown();
        CHECK.end();
    }

    private static int read(String text) {
        return Texts.read(new StyleRows(0), text);
    }

    private static void feeds() {
        StyleRows rows = new StyleRows(0);
        CHECK.due("9 none", rows.feed(0, 0), StyleRows.OUTSIDE);
        CHECK.due("9 below", rows.feed(-1, 0), StyleRows.OUTSIDE);
        CHECK.due("9 nine", rows.feed(9, 0), StyleRows.OUTSIDE);
        CHECK.due("9 count", rows.count(5), 0);
        CHECK.due("9 lowest bytes", rows.feed(2, 0x7777777777770000L + Texts.word("be")), 2);
        CHECK.due("9 behind", rows.feed(5, Texts.word("at 5;")), 7);
        CHECK.due("9 count", rows.count(5), 7);
        CHECK.due("10 read", rows.read(), 1);
        CHECK.due("10 taken", rows.count(5), 0);
        for (int i = 1; i <= 49; i++) {
            CHECK.due("9 feed", rows.feed(8, Texts.word("        ")), 8 * i);
        }
        rows.feed(4, Texts.word("    "));
        CHECK.due("9 room", rows.feed(5, 0), StyleRows.ROOM);
        CHECK.due("9 nothing changed", rows.count(5), 396);
        CHECK.due("9 outside ahead of room", rows.feed(9, 0), StyleRows.OUTSIDE);
        CHECK.due("9 full", rows.feed(4, Texts.word("   x")), 400);
        CHECK.due("9 room", rows.feed(1, 0), StyleRows.ROOM);
        CHECK.due("10 last place", rows.read(), -10 - 399);
        CHECK.due("10 taken with a fault", rows.count(5), 0);
    }

    private static void texts() {
        CHECK.due("10 empty", read(""), 0);
        CHECK.due("10 blanks", read(" \n \n"), 0);
        CHECK.due("10 close", read("voice0short1rank2;"), 1);
        CHECK.due("10 apart", read("\n voice \n 0 short\n1 rank 2 ; \n"), 1);
        CHECK.due("10 two", read("short 1;held 2;"), 2);
        CHECK.due("10 0s ahead", read("short 000000000000000000000000000000000100 rank 0000000000009;"), 1);
        StyleRows rows = new StyleRows(0);
        CHECK.due("10 come", Texts.read(rows, "short 7;"), 1);
        CHECK.due("10 behind", Texts.read(rows, "held 8;turn 9;"), 3);
        CHECK.due("10 nothing read", rows.read(), 3);
        CHECK.due("10 fault: none comes", Texts.read(rows, "lean 1;roll 2;lean"), -10 - 18);
        CHECK.due("10 none came", rows.count(3), 3);
        CHECK.due("13 none came", rows.value(0, 10), 40);
        CHECK.due("14 none came", rows.why(0, 10), StyleRows.NONE);
        CHECK.due("10 a later one is not told by it", Texts.read(rows, "beat 3;"), 4);
        CHECK.due("12 number 3 is the later one", rows.rule(3, 1), 6);
    }

    private static void bounds() {
        for (int i = 0; i < Names.WORDS.length; i++) {
            StyleRows rows = new StyleRows(0);
            int place = Names.WORDS[i].length() + 1;
            CHECK.due("13 without " + Names.WORDS[i], rows.value(i % 4, i), Names.WITHOUT[i]);
            CHECK.due("10 least " + Names.WORDS[i], Texts.read(rows, Names.WORDS[i] + " " + Names.LEAST[i] + ";"), 1);
            CHECK.due("13 least " + Names.WORDS[i], rows.value(3, i), Names.LEAST[i]);
            CHECK.due("10 most " + Names.WORDS[i], Texts.read(rows, Names.WORDS[i] + " " + Names.MOST[i] + ";"), 2);
            CHECK.due("13 most " + Names.WORDS[i], rows.value(0, i), Names.MOST[i]);
            CHECK.due("10 above " + Names.WORDS[i], Texts.read(rows, Names.WORDS[i] + " " + (Names.MOST[i] + 1) + ";"), -10 - place);
            if (Names.LEAST[i] > 0) {
                CHECK.due("10 below " + Names.WORDS[i], Texts.read(rows, Names.WORDS[i] + " " + (Names.LEAST[i] - 1) + ";"), -10 - place);
            }
        }
        CHECK.due("10 voice", read("voice 3 short 1;"), 1);
        CHECK.due("10 voice above", read("voice 4 short 1;"), -16);
        CHECK.due("10 rank", read("short 1 rank 9;"), 1);
        CHECK.due("10 rank 0", read("short 1 rank 0;"), 1);
        CHECK.due("10 voice 0", read("voice 0 short 1;"), 1);
        CHECK.due("10 rank above", read("short 1 rank 10;"), -23);
        CHECK.due("10 beyond int", read("short 4294967297;"), -16);
        CHECK.due("10 beyond long", read("short 18446744073709551617;"), -16);
    }

    private static void faults() {
        CHECK.due("10 ;", read(";"), -10);
        CHECK.due("10 ;;", read("short 1;;"), -18);
        CHECK.due("10 number first", read("5;"), -10);
        CHECK.due("10 no name", read(" shorts 1;"), -11);
        CHECK.due("10 part of a name", read("shor 1;"), -10);
        CHECK.due("10 another first letter", read("xhort 1;"), -10);
        CHECK.due("10 another last letter", read("shorx 1;"), -10);
        CHECK.due("10 great letters", read("Short 1;"), -10);
        CHECK.due("10 great letter within", read("shOrt 1;"), -10);
        CHECK.due("10 rank first", read("rank 1 short 1;"), -10);
        CHECK.due("10 voice twice", read("voice 1 voice 1 short 1;"), -18);
        CHECK.due("10 voice without number", read("voice short 1;"), -16);
        CHECK.due("10 voice alone", read("voice 1;"), -17);
        CHECK.due("10 name without number", read("short;"), -15);
        CHECK.due("10 two numbers", read("short 1 2;"), -18);
        CHECK.due("10 less", read("short -1;"), -16);
        CHECK.due("10 word for rank", read("short 1 ranks 1;"), -18);
        CHECK.due("10 rank without number", read("short 1 rank;"), -22);
        CHECK.due("10 rank twice", read("short 1 rank 1 rank 1;"), -25);
        CHECK.due("10 voice behind", read("short 1 voice 1;"), -18);
        CHECK.due("10 other blanks", read("short\t1;"), -15);
        CHECK.due("10 byte 13", read("short 1;\r\n"), -18);
        CHECK.due("10 byte 0", read("short 1\0;"), -17);
        CHECK.due("10 byte 255", read("short 1;\u00ff"), -18);
        CHECK.due("10 byte 160", read("\u00a0short 1;"), -10);
        CHECK.due("10 end behind voice", read("voice"), -15);
        CHECK.due("10 end behind voice number", read("voice 1"), -17);
        CHECK.due("10 end behind name", read("short "), -16);
        CHECK.due("10 end behind number", read("short 1 \n"), -19);
        CHECK.due("10 end behind rank", read("short 1 rank"), -22);
        CHECK.due("10 end behind rank number", read("short 1 rank 1"), -24);
        CHECK.due("10 the first one", read("short 0;voice 9;"), -16);
    }

    private static void manyRules() {
        String eight = "beat 1;beat 2;beat 3;beat 4;beat 5;beat 6;beat 7;beat 8;";
        StyleRows rows = new StyleRows(0);
        CHECK.due("10 24", Texts.read(rows, eight + eight + eight), 24);
        CHECK.due("10 nothing more", Texts.read(rows, " \n"), 24);
        CHECK.due("10 25th", Texts.read(rows, "  voice 1 beat 1;"), -12);
        CHECK.due("10 25th, no word", Texts.read(rows, "  !"), -12);
        CHECK.due("11 all go", rows.plain(), 24);
        CHECK.due("11 none left", rows.plain(), 0);
        CHECK.due("11 count", rows.count(3), 0);
        CHECK.due("13 without", rows.value(0, 6), 4);
        CHECK.due("14 none", rows.why(0, 6), StyleRows.NONE);
        CHECK.due("12 none", rows.rule(0, 0), StyleRows.UNKNOWN);
        CHECK.due("10 25 in one text", Texts.read(rows, eight + eight + eight + "beat 9;"), -10 - 3 * eight.length());
        CHECK.due("10 none came", rows.count(3), 0);
        CHECK.due("10 fault ahead of the 25th", Texts.read(rows, eight + eight + "beat 128;" + eight), -10 - 2 * eight.length() - 5);
        Texts.read(rows, eight + eight);
        CHECK.due("10 16 and 9", Texts.read(rows, eight + "beat 9;"), -10 - eight.length());
        CHECK.due("10 16 and 8", Texts.read(rows, eight), 24);
        CHECK.due("11 the tape stays", rows.feed(8, Texts.word("beat 99;")), 8);
        rows.plain();
        CHECK.due("11 the tape stays", rows.read(), 1);
    }

    private static void rules() {
        StyleRows rows = new StyleRows(0);
        Texts.read(rows, "voice 2 roll 30 rank 7;loose 99;");
        int[][] want = {{2, 11, 30, 7}, {StyleRows.NONE, 12, 99, 0}};
        for (int i = 0; i < 2; i++) {
            for (int what = 0; what < 4; what++) {
                CHECK.due("12 rule(" + i + ", " + what + ")", rows.rule(i, what), want[i][what]);
            }
        }
        CHECK.due("12 no rule", rows.rule(2, 0), StyleRows.UNKNOWN);
        CHECK.due("12 no rule", rows.rule(-1, 0), StyleRows.UNKNOWN);
        CHECK.due("12 no what", rows.rule(0, 4), StyleRows.UNKNOWN);
        CHECK.due("12 no what", rows.rule(0, -1), StyleRows.UNKNOWN);
    }

    private static void counting() {
        StyleRows rows = new StyleRows(0);
        Texts.read(rows, "short 1 rank 5;voice 1 short 2 rank 5;short 3 rank 4;voice 1 short 4 rank 6;");
        counts(rows, 0, 0, 0, 1);
        counts(rows, 1, 0, 3, 4);
        Texts.read(rows, "short 5 rank 6;");
        counts(rows, 0, 0, 4, 5);
        counts(rows, 1, 0, 4, 5);
        Texts.read(rows, "voice 3 short 6;voice 3 held 7;held 8;");
        counts(rows, 3, 0, 4, 5);
        counts(rows, 3, 2, 7, 8);
        counts(rows, 3, 1, StyleRows.NONE, 90);
        Texts.read(rows, "voice 3 held 9;");
        counts(rows, 3, 2, 8, 9);
        counts(rows, 2, 2, 7, 8);
    }

    private static void counts(StyleRows rows, int voice, int name, int why, int value) {
        CHECK.due("14 why(" + voice + ", " + name + ")", rows.why(voice, name), why);
        CHECK.due("13 value(" + voice + ", " + name + ")", rows.value(voice, name), value);
    }

    private static void unknown() {
        StyleRows rows = new StyleRows(0);
        int[][] wrong = {{-1, 0}, {4, 0}, {0, -1}, {0, 13}, {Integer.MIN_VALUE, Integer.MAX_VALUE}};
        for (int[] w : wrong) {
            CHECK.due("13 unknown", rows.value(w[0], w[1]), StyleRows.UNKNOWN);
            CHECK.due("14 unknown", rows.why(w[0], w[1]), StyleRows.UNKNOWN);
        }
    }
}
