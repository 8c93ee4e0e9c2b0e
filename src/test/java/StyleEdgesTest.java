/** The boundary cases of promises 9 to 14, a method for each sentence of the document that names one. */
public final class StyleEdgesTest {
    private static final Check CHECK = new Check("StyleEdgesTest");
    private static final int NO_FAULT = -1;
    private static final int TAPE = 400, RULES = 24;

    public static void main(String[] args) {
        feedNumbers();
        feedLowestBytes();
        feedHighestFirst();
        tapeAtMost();
        tapeTaken();
        noRules();
        numbersWithoutRule();
        numbersInBounds();
        numbersOfAnyDigits();
        voicesInBounds();
        ranksInBounds();
        ranklessIsNought();
        wordsAsManyAsStandThere();
        wordsLetterByLetter();
        numbersAsManyAsStandThere();
        blanksBetweenOrNot();
        everyByteAlone();
        everyByteBehindName();
        everyByteWithinNumber();
        everyByteBehindNumber();
        everyByteBehindRule();
        endsEverywhere();
        faultAtFirstByte();
        faultAtLastPlaces();
        faultAtTheFirst();
        faultAndNoneComes();
        rulesAtMost();
        rulesAtMostInOneText();
        plainAlways();
        ruleNumbers();
        whoseNumbers();
        ranksCount();
        latestOfAlikeOnes();
        voicesCount();
        CHECK.end();
    }

    private static int read(String text) {
        return Texts.read(new StyleRows(0), text);
    }

    private static String many(String piece, int times) {
        return piece.repeat(times);
    }

    /** A TEXT that is one RULE, or has a FAULT at a place. */
    private static void reads(String what, String text, int fault) {
        CHECK.due("10 " + what + " '" + text + "'", read(text), fault == NO_FAULT ? 1 : -10 - fault);
    }

    /** "OUTSIDE: n is not 1 .. 8". */
    private static void feedNumbers() {
        for (int n = 1; n <= 8; n++) {
            StyleRows rows = new StyleRows(0);
            CHECK.due("9 feed of " + n, rows.feed(n, 0), n);
            CHECK.due("9 again", rows.feed(n, -1), 2 * n);
            CHECK.due("9 count", rows.count(5), 2 * n);
        }
        int[] wrong = {0, -1, 9, 10, 64, 256 + 1, Integer.MIN_VALUE, Integer.MAX_VALUE};
        for (int n : wrong) {
            StyleRows rows = new StyleRows(0);
            rows.feed(7, Texts.word("short 7"));
            CHECK.due("9 feed of " + n, rows.feed(n, Texts.word("7777;")), StyleRows.OUTSIDE);
            CHECK.due("9 nothing changed", rows.count(5), 7);
            CHECK.due("9 behind it", rows.feed(1, ';'), 8);
            CHECK.due("9 nothing changed", rows.read(), 1);
            CHECK.due("9 nothing changed", rows.value(0, 0), 7);
        }
    }

    /** "The n lowest bytes of w". */
    private static void feedLowestBytes() {
        long above = 0x7878787878787878L;
        for (int n = 1; n < 8; n++) {
            String text = "held  7;".substring(8 - n);
            StyleRows rows = new StyleRows(0);
            rows.feed(8 - n, Texts.word("held  7;".substring(0, 8 - n)));
            long w = above << 8 * n | Texts.word(text);
            CHECK.due("9 the " + n + " lowest", rows.feed(n, w), 8);
            CHECK.due("10 the " + n + " lowest", rows.read(), 1);
            CHECK.due("13 the " + n + " lowest", rows.value(0, 2), 7);
        }
    }

    /** "the highest first, come behind the TAPE". */
    private static void feedHighestFirst() {
        StyleRows rows = new StyleRows(0);
        rows.feed(8, Texts.word("short 12"));
        rows.feed(8, Texts.word(";held 34"));
        rows.feed(1, ';');
        CHECK.due("10 two", rows.read(), 2);
        CHECK.due("13 the first", rows.value(0, 0), 12);
        CHECK.due("13 the second", rows.value(0, 2), 34);
        StyleRows high = new StyleRows(0);
        CHECK.due("9 all bits", high.feed(8, -1L), 8);
        CHECK.due("10 byte 255 first", high.read(), -10);
        high.feed(8, 0x73686F7274203180L);
        CHECK.due("10 byte 128 last", high.read(), -17);
    }

    /** "ROOM: 400": the last n that still has room, and the first that no longer has. */
    private static void tapeAtMost() {
        for (int n = 1; n <= 8; n++) {
            StyleRows rows = new StyleRows(0);
            Texts.feed(rows, many(" ", TAPE - n + 1));
            CHECK.due("9 no room for " + n, rows.feed(n, 0), StyleRows.ROOM);
            CHECK.due("9 count", rows.count(5), TAPE - n + 1);
            StyleRows full = new StyleRows(0);
            Texts.feed(full, many(" ", TAPE - n));
            CHECK.due("9 room for " + n, full.feed(n, Texts.word(many(" ", n))), TAPE);
            CHECK.due("9 full", full.feed(1, 'x'), StyleRows.ROOM);
            CHECK.due("9 full", full.feed(8, -1), StyleRows.ROOM);
            CHECK.due("9 OUTSIDE ahead of ROOM", full.feed(0, 0), StyleRows.OUTSIDE);
            CHECK.due("9 OUTSIDE ahead of ROOM", full.feed(9, 0), StyleRows.OUTSIDE);
            CHECK.due("9 count", full.count(5), TAPE);
            CHECK.due("10 nothing changed", full.read(), 0);
            CHECK.due("9 room again", full.feed(n, 0), n);
        }
        StyleRows rows = new StyleRows(0);
        Texts.feed(rows, many(" ", TAPE - 4));
        CHECK.due("9 no room", rows.feed(5, Texts.word("xxxxx")), StyleRows.ROOM);
        CHECK.due("9 fewer have room", rows.feed(3, Texts.word("   ")), TAPE - 1);
        CHECK.due("9 the last", rows.feed(1, ' '), TAPE);
        CHECK.due("10 nothing came of it", rows.read(), 0);
    }

    /** "The TAPE (taken)". */
    private static void tapeTaken() {
        StyleRows rows = new StyleRows(0);
        CHECK.due("10 a RULE", Texts.read(rows, "short 5;"), 1);
        CHECK.due("10 taken", rows.count(5), 0);
        CHECK.due("10 it comes once", rows.read(), 1);
        CHECK.due("10 a FAULT", Texts.read(rows, "short 0;"), -16);
        CHECK.due("10 taken with a FAULT", rows.count(5), 0);
        CHECK.due("10 no FAULT any more", rows.read(), 1);
        CHECK.due("9 from its beginning", rows.feed(3, Texts.word("be ")), 3);
    }

    /** "A TEXT of RULES": none, too. */
    private static void noRules() {
        CHECK.due("10 empty", read(""), 0);
        CHECK.due("10 a blank", read(" "), 0);
        CHECK.due("10 a line's end", read("\n"), 0);
        CHECK.due("10 full of blanks", read(many(" \n", TAPE / 2)), 0);
    }

    /** "their numbers without a RULE". */
    private static void numbersWithoutRule() {
        StyleRows rows = new StyleRows(0);
        for (int voice = 0; voice < 4; voice++) {
            for (int name = 0; name < 13; name++) {
                CHECK.due("13 without, " + Names.WORDS[name], rows.value(voice, name), Names.WITHOUT[name]);
                CHECK.due("14 without, " + Names.WORDS[name], rows.why(voice, name), StyleRows.NONE);
            }
        }
    }

    /** "a NUMBER in its bounds": "0 short 50 (1 .. 100)" to "12 loose 0 (0 .. 99)". */
    private static void numbersInBounds() {
        for (int name = 0; name < 13; name++) {
            String word = Names.WORDS[name] + " ";
            for (int number : new int[] {Names.LEAST[name], Names.LEAST[name] + 1, Names.MOST[name] - 1, Names.MOST[name]}) {
                StyleRows rows = new StyleRows(0);
                CHECK.due("10 taken, " + word + number, Texts.read(rows, word + number + ";"), 1);
                CHECK.due("13 taken, " + word + number, rows.value(3, name), number);
                CHECK.due("12 taken, " + word + number, rows.rule(0, 2), number);
            }
            for (int number : new int[] {Names.LEAST[name] - 1, Names.MOST[name] + 1, Names.MOST[name] + 2, Names.MOST[name] * 10 + 10, 1000000}) {
                StyleRows rows = new StyleRows(0);
                CHECK.due("10 refused, " + word + number, Texts.read(rows, word + number + ";"), -10 - word.length());
                CHECK.due("13 nothing changed", rows.value(3, name), Names.WITHOUT[name]);
                CHECK.due("14 nothing changed", rows.why(3, name), StyleRows.NONE);
                CHECK.due("19 nothing changed", rows.count(3), 0);
            }
        }
    }

    /** "(any many, 0s ahead too)". */
    private static void numbersOfAnyDigits() {
        String head = "voice 0001 held ";
        StyleRows rows = new StyleRows(0);
        String zeros = many("0", TAPE - head.length() - 4);
        CHECK.due("10 full of 0s", Texts.read(rows, head + zeros + "100;"), 1);
        CHECK.due("13 full of 0s", rows.value(1, 2), 100);
        CHECK.due("12 0s ahead", rows.rule(0, 0), 1);
        CHECK.due("10 full of 0s, too large", Texts.read(rows, head + zeros + "101;"), -10 - head.length());
        CHECK.due("10 full of 0s, too small", Texts.read(rows, head + zeros + "000;"), -10 - head.length());
        CHECK.due("10 full of 9s", Texts.read(rows, head + many("9", TAPE - head.length())), -10 - head.length());
        CHECK.due("10 0s for a RANK", Texts.read(rows, "accent 000 rank " + many("0", 300) + "9;"), 2);
        CHECK.due("12 0s for a RANK", rows.rule(1, 3), 9);
        CHECK.due("12 many a 0 is 0", rows.rule(1, 2), 0);
        String[] wrapping = {
            "2147483648", "2147483749", "4294967295", "4294967296", "4294967297", "4294967396", "9223372036854775808",
            "18446744073709551615", "18446744073709551616", "18446744073709551617", "340282366920938463463374607431768211457"
        };
        for (String number : wrapping) {
            reads("beyond all words,", "held " + number + ";", 5);
            reads("beyond all words,", "beat " + number + ";", 5);
            reads("beyond all words,", "voice " + number + " beat 1;", 6);
            reads("beyond all words,", "beat 1 rank " + number + ";", 12);
        }
    }

    /** "each perhaps voice and a NUMBER 0 .. 3". */
    private static void voicesInBounds() {
        for (int voice = 0; voice < 4; voice++) {
            StyleRows rows = new StyleRows(0);
            CHECK.due("10 VOICE", Texts.read(rows, "voice " + voice + " short 7;"), 1);
            CHECK.due("12 VOICE", rows.rule(0, 0), voice);
            for (int other = 0; other < 4; other++) {
                CHECK.due("13 of VOICE " + other, rows.value(other, 0), other == voice ? 7 : 50);
            }
        }
        reads("VOICE too large", "voice 4 short 7;", 6);
        reads("VOICE too large", "voice 10 short 7;", 6);
        reads("VOICE too small", "voice -1 short 7;", 6);
        reads("VOICE without NAME", "voice 3 ;", 8);
        reads("VOICE twice", "voice 3 voice 3 short 7;", 8);
        StyleRows rows = new StyleRows(0);
        CHECK.due("10 no VOICE", Texts.read(rows, "short 7;"), 1);
        CHECK.due("12 no VOICE", rows.rule(0, 0), StyleRows.NONE);
    }

    /** "perhaps rank and a NUMBER 0 .. 9". */
    private static void ranksInBounds() {
        for (int rank = 0; rank < 10; rank++) {
            StyleRows rows = new StyleRows(0);
            CHECK.due("10 RANK", Texts.read(rows, "short 7 rank " + rank + ";"), 1);
            CHECK.due("12 RANK", rows.rule(0, 3), rank);
        }
        reads("RANK too large", "short 7 rank 10;", 13);
        reads("RANK too large", "short 7 rank 99;", 13);
        reads("RANK too small", "short 7 rank -1;", 13);
        reads("RANK without NUMBER", "short 7 rank ;", 13);
        reads("RANK twice", "short 7 rank 1 rank 1;", 15);
        reads("RANK ahead of the NUMBER", "short rank 1 7;", 6);
    }

    /** "(without: 0)": alike with one of RANK 0. */
    private static void ranklessIsNought() {
        StyleRows rows = new StyleRows(0);
        Texts.read(rows, "short 7;short 8 rank 0;");
        CHECK.due("12 without RANK", rows.rule(0, 3), 0);
        CHECK.due("14 the latest", rows.why(0, 0), 1);
        Texts.read(rows, "short 9;");
        CHECK.due("14 the latest", rows.why(0, 0), 2);
        Texts.read(rows, "short 10 rank 1;short 11;");
        CHECK.due("14 the greatest RANK", rows.why(0, 0), 3);
    }

    /** "Words are letters a .. z as many as stand there". */
    private static void wordsAsManyAsStandThere() {
        for (String name : Names.WORDS) {
            reads("a letter more,", name + "s 1;", 0);
            reads("a letter ahead,", "a" + name + " 1;", 0);
            reads("the last letter less,", name.substring(0, name.length() - 1) + " 1;", 0);
            reads("the first letter less,", name.substring(1) + " 1;", 0);
            reads("twice,", name + name + " 1;", 0);
            reads("parted,", name.charAt(0) + " " + name.substring(1) + " 1;", 0);
            reads("a great letter,", Character.toUpperCase(name.charAt(0)) + name.substring(1) + " 1;", 0);
            reads("nothing between,", name + "1;", NO_FAULT);
        }
        reads("a word more", "voicee 1 held 1;", 0);
        reads("a word less", "voic 1 held 1;", 0);
        reads("two words in one", "voiceheld 1;", 0);
        reads("a word more", "held 1 ranks 1;", 7);
        reads("a word less", "held 1 ran 1;", 7);
        reads("a word of 392 letters", many("held", 98) + " 1;", 0);
        reads("all close", "voice3held1rank9;", NO_FAULT);
    }

    /** A word with another letter, at each of its places, is no word of a RULE. */
    private static void wordsLetterByLetter() {
        for (String name : Names.WORDS) {
            for (int i = 0; i < name.length(); i++) {
                reads("another letter,", another(name, i) + " 1;", 0);
            }
        }
        for (int i = 0; i < 5; i++) {
            reads("another letter,", another("voice", i) + " 1 held 1;", 0);
        }
        for (int i = 0; i < 4; i++) {
            reads("another letter,", "held 1 " + another("rank", i) + " 1;", 7);
        }
    }

    private static String another(String word, int place) {
        return word.substring(0, place) + "x" + word.substring(place + 1);
    }

    /** "NUMBERS digits likewise". */
    private static void numbersAsManyAsStandThere() {
        reads("one NUMBER", "held 100;", NO_FAULT);
        reads("one NUMBER too large", "held 1000;", 5);
        reads("two NUMBERS", "held 10 0;", 8);
        reads("two NUMBERS", "held 10\n0;", 8);
        reads("a sign", "held +1;", 5);
        reads("a part", "held 1.0;", 6);
        reads("another base", "beat 0x1;", 6);
        reads("between bounds of digits", "held 1/;", 6);
        reads("between bounds of digits", "held 1:;", 6);
    }

    /** "bytes 32 and 10 stand between or not". */
    private static void blanksBetweenOrNot() {
        String[] gaps = {"", " ", "\n", " \n", "\n\n  \n"};
        for (String gap : gaps) {
            String text = String.join(gap, "voice", "2", "upper", "1", "rank", "3", ";", "loose", "0", ";");
            StyleRows rows = new StyleRows(0);
            CHECK.due("10 '" + text + "'", Texts.read(rows, text), 2);
            CHECK.due("12 VOICE", rows.rule(0, 0), 2);
            CHECK.due("12 NAME", rows.rule(1, 1), 12);
            CHECK.due("10 ahead and behind", Texts.read(rows, gap + text + gap), 4);
        }
    }

    private static boolean isBlank(int sign) {
        return sign == 32 || sign == 10;
    }

    private static boolean isDigit(int sign) {
        return sign >= 48 && sign <= 57;
    }

    private static boolean isLetter(int sign) {
        return sign >= 97 && sign <= 122;
    }

    /** "the first word, NUMBER or byte that can not stand there", as the only one. */
    private static void everyByteAlone() {
        for (int sign = 0; sign < 256; sign++) {
            CHECK.due("10 byte " + sign + " alone", read("" + (char) sign), isBlank(sign) ? 0 : -10);
        }
    }

    private static void everyByteBehindName() {
        for (int sign = 0; sign < 256; sign++) {
            boolean good = isBlank(sign) || isDigit(sign);
            int due = good ? 1 : isLetter(sign) ? -10 : -15;
            CHECK.due("10 byte " + sign + " behind a NAME", read("short" + (char) sign + "1;"), due);
        }
    }

    private static void everyByteWithinNumber() {
        for (int sign = 0; sign < 256; sign++) {
            int due = sign == '0' ? 1 : isDigit(sign) ? -15 : isBlank(sign) || sign == ';' ? -17 : -16;
            CHECK.due("10 byte " + sign + " within a NUMBER", read("held 1" + (char) sign + "0;"), due);
        }
    }

    private static void everyByteBehindNumber() {
        for (int sign = 0; sign < 256; sign++) {
            int due = isBlank(sign) || isDigit(sign) ? 1 : sign == ';' ? -18 : -17;
            CHECK.due("10 byte " + sign + " behind a NUMBER", read("short 1" + (char) sign + ";"), due);
        }
    }

    private static void everyByteBehindRule() {
        for (int sign = 0; sign < 256; sign++) {
            CHECK.due("10 byte " + sign + " behind a RULE", read("short 1;" + (char) sign), isBlank(sign) ? 1 : -18);
        }
    }

    /** "or the TEXT's length": a TEXT that ends within a RULE, at each place. */
    private static void endsEverywhere() {
        String text = "voice 3 short 50 rank 9;";
        int[] faults = {
            NO_FAULT, 0, 0, 0, 0, 5, 6, 7, 8, 8, 8, 8, 8, 13, 14, 15, 16, 17, 17, 17, 17, 21, 22, 23, NO_FAULT
        };
        for (int length = 1; length < faults.length; length++) {
            reads("an end at " + length, text.substring(0, length), faults[length]);
        }
        reads("blanks ahead of the end", "short 1 \n ", 10);
        reads("blanks ahead of the end", "voice \n", 7);
        CHECK.due("10 an end in a second RULE", read("short 1;held"), -22);
        CHECK.due("10 an end in a second RULE", read("short 1;held 100"), -26);
    }

    /** "its place: the first byte of the first word, NUMBER or byte". */
    private static void faultAtFirstByte() {
        reads("first byte of a word", "  shorter 1;", 2);
        reads("first byte of a NUMBER", "short  1000;", 7);
        reads("first byte of a word where a NUMBER stands", "short long;", 6);
        reads("first byte of a NUMBER where a word stands", "123 short 1;", 0);
        reads("first byte of a NUMBER where a word stands", "voice 1 234;", 8);
        reads("first of two bytes", "short !!;", 6);
        reads("; for a NUMBER", "short;", 5);
        reads("; first", ";short 1;", 0);
        reads("; twice", "short 1;;", 8);
        reads("a NAME for a NUMBER", "short held 1;", 6);
        reads("VOICE behind", "short 1 voice 1;", 8);
        reads("RANK first", "rank 1 short 1;", 0);
        reads("a second RULE without ;", "short 1 held 1;", 8);
    }

    /** The places at the TAPE's end. */
    private static void faultAtLastPlaces() {
        CHECK.due("10 the last byte", read(many(" ", TAPE - 1) + ";"), -10 - 399);
        CHECK.due("10 the TEXT's length, full", read(many(" ", TAPE - 5) + "short"), -10 - TAPE);
        CHECK.due("10 the TEXT's length, one less", read(many(" ", TAPE - 6) + "short"), -10 - 399);
        CHECK.due("10 the TEXT's length, full", read("short 1" + many("\n", TAPE - 7)), -10 - TAPE);
        CHECK.due("10 a RULE at the end", read(many(" ", TAPE - 7) + "beat 1;"), 1);
        CHECK.due("10 a NUMBER at the end", read(many(" ", TAPE - 4) + "5000"), -10 - 396);
    }

    /** "the first word, NUMBER or byte": of two FAULTS. */
    private static void faultAtTheFirst() {
        reads("the first of two", "short 0;held 0;", 6);
        reads("the first of two", "voice 4 shorter 0;", 6);
        CHECK.due("10 in the second RULE", read("short 1;held 0;"), -23);
        CHECK.due("10 in the third RULE", read("short 1;held 1;voice 3 beat 128;"), -10 - 28);
    }

    /** "A FAULT: none comes", those ahead of it too. */
    private static void faultAndNoneComes() {
        StyleRows rows = new StyleRows(0);
        Texts.read(rows, "voice 1 short 7 rank 2;held 8;");
        CHECK.due("10 a FAULT at the end", Texts.read(rows, "short 9 rank 9;held 9;plain 9;beat"), -10 - 34);
        CHECK.due("19 none came", rows.count(3), 2);
        CHECK.due("12 none came", rows.rule(2, 1), StyleRows.UNKNOWN);
        CHECK.due("13 none came", rows.value(1, 0), 7);
        CHECK.due("14 none came", rows.why(1, 0), 0);
        CHECK.due("13 none came", rows.value(0, 0), 50);
        CHECK.due("14 none came", rows.why(0, 2), 1);
        CHECK.due("14 none came", rows.why(0, 1), StyleRows.NONE);
        CHECK.due("10 the next one comes", Texts.read(rows, "plain 11;"), 3);
        CHECK.due("12 the next one", rows.rule(2, 2), 11);
        CHECK.due("14 the next one", rows.why(0, 1), 2);
    }

    /** "RULES, 24 at most"; "also the 25th RULE's first word": TEXT by TEXT. */
    private static void rulesAtMost() {
        StyleRows rows = new StyleRows(0);
        for (int i = 0; i < RULES; i++) {
            CHECK.due("10 RULE " + i, Texts.read(rows, "beat " + i + ";"), i + 1);
            CHECK.due("12 numbered as they come", rows.rule(i, 2), i);
        }
        CHECK.due("10 the 25th", Texts.read(rows, "beat 99;"), -10);
        CHECK.due("10 the 25th behind blanks", Texts.read(rows, " \n beat 99;"), -13);
        CHECK.due("10 the 25th with a VOICE", Texts.read(rows, " voice 1 beat 99;"), -11);
        CHECK.due("10 the 25th with another FAULT", Texts.read(rows, " voice 9 beat 99"), -11);
        CHECK.due("10 no word there", Texts.read(rows, "  ;"), -12);
        CHECK.due("10 no 25th", Texts.read(rows, " \n"), 24);
        CHECK.due("10 no 25th", rows.read(), 24);
        CHECK.due("19 count", rows.count(3), RULES);
        CHECK.due("12 the 24th", rows.rule(23, 2), 23);
        CHECK.due("12 no 25th", rows.rule(24, 2), StyleRows.UNKNOWN);
        CHECK.due("13 nothing changed", rows.value(1, 6), 23);
        CHECK.due("14 nothing changed", rows.why(1, 6), 23);
        CHECK.due("11 all go", rows.plain(), RULES);
        CHECK.due("10 room again", Texts.read(rows, "beat 99;"), 1);
    }

    /** "RULES, 24 at most": in one TEXT, and over two. */
    private static void rulesAtMostInOneText() {
        String rule = "beat 1;";
        StyleRows rows = new StyleRows(0);
        CHECK.due("10 25", Texts.read(rows, many(rule, 25)), -10 - 24 * 7);
        CHECK.due("10 25 and more", Texts.read(rows, many(rule, 50)), -10 - 24 * 7);
        CHECK.due("10 a FAULT ahead of the 25th", Texts.read(rows, many(rule, 23) + "beat x;" + rule), -10 - 23 * 7 - 5);
        CHECK.due("19 none came", rows.count(3), 0);
        CHECK.due("10 24 and blanks", Texts.read(rows, many(rule, 24) + " \n"), 24);
        CHECK.due("11 all go", rows.plain(), 24);
        CHECK.due("10 23", Texts.read(rows, many(rule, 23)), 23);
        CHECK.due("10 two more", Texts.read(rows, "beat 2;\nvoice 1 beat 3;"), -10 - 8);
        CHECK.due("19 none came", rows.count(3), 23);
        CHECK.due("13 none came", rows.value(1, 6), 1);
        CHECK.due("10 one more", Texts.read(rows, "beat 2;"), 24);
        CHECK.due("13 it came", rows.value(1, 6), 2);
    }

    /** "All RULES go: how many": none, some; the TAPE and the EVENTS stay. */
    private static void plainAlways() {
        StyleRows rows = new StyleRows(0);
        CHECK.due("11 none", rows.plain(), 0);
        rows.note(0, 0, 100, 60, 0);
        rows.level(0, 9, false);
        Texts.read(rows, "plain 50;plain 60;loose 9;");
        rows.perform();
        int begin = rows.event(0, 0);
        rows.feed(8, Texts.word("beat 77;"));
        CHECK.due("11 three", rows.plain(), 3);
        CHECK.due("11 none any more", rows.plain(), 0);
        int[] counts = {1, 1, 0, 0, 1, 8};
        for (int what = 0; what < 6; what++) {
            CHECK.due("11 count(" + what + ")", rows.count(what), counts[what]);
        }
        CHECK.event(rows, 0, begin, 60, 60, 17, 0, 0, 0);
        CHECK.due("12 none", rows.rule(0, 0), StyleRows.UNKNOWN);
        CHECK.due("13 without", rows.value(0, 1), 90);
        CHECK.due("14 none", rows.why(0, 12), StyleRows.NONE);
        CHECK.due("10 the TAPE stayed", rows.read(), 1);
        CHECK.due("12 numbered from 0", rows.rule(0, 2), 77);
        rows.perform();
        CHECK.due("15 without a RULE", rows.event(0, 1), 90);
        CHECK.due("15 without a RULE", rows.event(0, 0), 0);
    }

    /** "UNKNOWN (no such .. RULE, .. what)". */
    private static void ruleNumbers() {
        StyleRows rows = new StyleRows(0);
        CHECK.due("12 no RULE at all", rows.rule(0, 0), StyleRows.UNKNOWN);
        Texts.read(rows, "voice 3 loose 99 rank 9;voice 3 loose 99 rank 9;voice 3 loose 99 rank 9;");
        CHECK.bounds("12 VOICE of RULE", 0, 2, 3, StyleRows.UNKNOWN, n -> rows.rule(n, 0));
        CHECK.bounds("12 NAME of RULE", 0, 2, 12, StyleRows.UNKNOWN, n -> rows.rule(n, 1));
        CHECK.bounds("12 number of RULE", 0, 2, 99, StyleRows.UNKNOWN, n -> rows.rule(n, 2));
        CHECK.bounds("12 RANK of RULE", 0, 2, 9, StyleRows.UNKNOWN, n -> rows.rule(n, 3));
        for (int what : new int[] {-1, 4, Integer.MIN_VALUE, Integer.MAX_VALUE}) {
            CHECK.due("12 what " + what, rows.rule(0, what), StyleRows.UNKNOWN);
            CHECK.due("12 what " + what + " of no RULE", rows.rule(3, what), StyleRows.UNKNOWN);
        }
    }

    /** "UNKNOWN (no such .. VOICE, ..)", and no such NAME. */
    private static void whoseNumbers() {
        StyleRows none = new StyleRows(0);
        CHECK.bounds("13 VOICE", 0, 3, 50, StyleRows.UNKNOWN, n -> none.value(n, 0));
        CHECK.bounds("14 VOICE", 0, 3, StyleRows.NONE, StyleRows.UNKNOWN, n -> none.why(n, 12));
        CHECK.bounds("14 NAME", 0, 12, StyleRows.NONE, StyleRows.UNKNOWN, n -> none.why(3, n));
        StyleRows rows = new StyleRows(0);
        Texts.read(rows, "short 1;loose 1;");
        CHECK.bounds("13 NAME", 0, 12, 1, StyleRows.UNKNOWN, n -> rows.value(3, n));
        CHECK.bounds("14 VOICE", 0, 3, 1, StyleRows.UNKNOWN, n -> rows.why(n, 12));
    }

    /** "that has the greatest RANK": each pair of RANKS. */
    private static void ranksCount() {
        for (int first = 0; first < 10; first++) {
            for (int second = 0; second < 10; second++) {
                StyleRows rows = new StyleRows(0);
                Texts.read(rows, "voice 1 short 1 rank " + first + ";short 2 rank " + second + ";");
                int due = first > second ? 0 : 1;
                String pair = ", RANKS " + first + " and " + second;
                CHECK.due("14 why" + pair, rows.why(1, 0), due);
                CHECK.due("13 value" + pair, rows.value(1, 0), due + 1);
                CHECK.due("14 why of another VOICE" + pair, rows.why(2, 0), 1);
            }
        }
    }

    /** "of alike ones the latest": in one TEXT and over two, with a VOICE or without. */
    private static void latestOfAlikeOnes() {
        StyleRows rows = new StyleRows(0);
        String[] texts = {
            "turn 1 rank 4;", "voice 0 turn 2 rank 4;", "turn 3 rank 4;", "voice 0 turn 4 rank 4;voice 0 turn 5 rank 4;"
        };
        int[] due = {0, 1, 2, 4};
        for (int i = 0; i < texts.length; i++) {
            Texts.read(rows, texts[i]);
            CHECK.due("14 the latest", rows.why(0, 9), due[i]);
            CHECK.due("13 the latest", rows.value(0, 9), due[i] + 1);
        }
        CHECK.due("14 the latest without a VOICE", rows.why(1, 9), 2);
        CHECK.due("13 the latest without a VOICE", rows.value(1, 9), 3);
    }

    /** "among those without a VOICE or with that one". */
    private static void voicesCount() {
        StyleRows rows = new StyleRows(0);
        Texts.read(rows, "voice 0 lean 1 rank 9;voice 3 lean 2 rank 8;lean 3 rank 7;voice 2 lean 4 rank 6;");
        int[] whys = {0, 2, 2, 1};
        int[] values = {1, 3, 3, 2};
        for (int voice = 0; voice < 4; voice++) {
            CHECK.due("14 of VOICE " + voice, rows.why(voice, 10), whys[voice]);
            CHECK.due("13 of VOICE " + voice, rows.value(voice, 10), values[voice]);
            CHECK.due("14 the NAME ahead", rows.why(voice, 9), StyleRows.NONE);
            CHECK.due("14 the NAME behind", rows.why(voice, 11), StyleRows.NONE);
        }
    }
}
