// The terms of the text by which a valley is told: one test for each sentence, or each edge of it.
final class TextSentences extends Boundary {
    private static final String SIX_TEAMS = "team 0 1 0;team 1 2 1;team 2 3 2;team 3 4 3;team 4 5 4;team 5 6 5;";
    private static final String SIX_WORKS = "work 0 1;work 1 2;work 2 3;work 3 4;work 4 5;work 5 6;";

    // reads in a valley that has something of everything; behind a fault all of it must be as it was
    private static void dueRead(String text, int want) {
        YearStretch x = ground();
        YearStretch like = ground();
        x.clear();
        like.clear();
        type(x, text);
        type(like, text);
        due("read of '" + text + "'", x.read(), want);
        dueStatus(x, "read of '" + text + "'", 0, 0, 0);
        if (want < 0) {
            dueSame("read of '" + text + "'", x, like);
        }
    }

    private static void dueFault(String text, int place) {
        dueRead(text, -10 - place);
    }

    // only the answer, for the many texts that differ by one byte
    private static int answer(String text) {
        YearStretch x = new YearStretch();
        type(x, text);
        return x.read();
    }

    private static String padded(String head, String tail, int length) {
        return head + " ".repeat(length - head.length() - tail.length()) + tail;
    }

    // ---- the text and its items

    @Sentence(promise = {8, 10}, says = "THE VALLEY is told by a TEXT (150 bytes at most)")
    static void aFullTextIsReadToItsLastByte() {
        for (int length = 149; length <= 150; length++) {
            YearStretch x = new YearStretch();
            type(x, padded("valley;", "peg 6;", length));
            due("bytes", x.count(6), length);
            due("read of " + length + " bytes", x.read(), 2);
            due("peg 6 was told", x.peg(6), 0);
        }
    }

    @Sentence(promise = {8, 10}, says = "THE VALLEY is told by a TEXT (150 bytes at most)")
    static void the151stByteIsNoPartOfIt() {
        YearStretch x = new YearStretch();
        String text = padded("valley;", "peg 6;", 151);
        type(x, text.substring(0, 150));
        due("a 151st", x.type(';'), FULL);
        due("bytes", x.count(6), 150);
        due("read without the last ;", x.read(), -10 - 150);
    }

    @Sentence(promise = {8, 10}, says = "THE VALLEY is told by a TEXT (150 bytes at most)")
    static void aFullTextOfBlanksOrOfOneWordHasItsFault() {
        due("150 blanks", answer(" ".repeat(150)), -10 - 150);
        due("150 letters", answer("v".repeat(150)), -10);
        due("150 figures", answer("1".repeat(150)), -10);
        due("149 blanks and a strange byte", answer(" ".repeat(149) + "-"), -10 - 149);
    }

    @Sentence(promise = 10, says = "of ITEMS, each ended by ; :")
    static void eachItemIsEnded() {
        dueRead("valley;", 1);
        dueFault("valley", 6);
        dueFault("valley peg 0;", 7);
        dueFault("valley;peg 0", 12);
        dueFault("valley;peg 0 peg 1;", 13);
        dueFault("valley;weeks 0 1", 16);
        dueFault("valley;team 0 1 0", 17);
        dueFault("valley;work 0 1", 15);
    }

    @Sentence(promise = 10, says = "of ITEMS, each ended by ; :")
    static void anEndWithoutAnItemCanNotStand() {
        dueFault(";", 0);
        dueFault(";valley;", 0);
        dueFault("valley;;", 7);
        dueFault("valley; ;", 8);
        dueFault("valley;peg 0;;", 13);
    }

    @Sentence(promise = 10, says = "valley (once, first of all);")
    static void valleyAloneIsOneItem() {
        YearStretch x = ground();
        x.clear();
        type(x, "valley;");
        due("read", x.read(), 1);
        due("digest", x.digest(), mix(1109, 0, 0, 0, 56, 0, 0, 7, 7, 7, 7, 7, 7, 7, 7, 7, 0, 0, 0, 0, 0, 0, 0, 3, 10));
    }

    @Sentence(promise = 10, says = "valley (once, first of all);")
    static void valleyHasNoNumber() {
        dueFault("valley 0;", 7);
        dueFault("valley0;", 6);
        dueFault("valley 00;", 7);
    }

    @Sentence(promise = 10, says = "weeks s n (0 .. 99);")
    static void weeksOfTheFirstAndTheLastSeasonToldByItsEdges() {
        YearStretch x = told("valley;weeks 0 0;weeks 7 99;weeks 3 00;weeks 04 01;");
        dueWeeks(x, "told", 0, 7, 7, 0, 1, 7, 7, 99);
        dueRead("valley;weeks 0 0;weeks 7 99;", 3);
        dueFault("valley;weeks 8 1;", 13);
        dueFault("valley;weeks 99 1;", 13);
        dueFault("valley;weeks 0 100;", 15);
        dueFault("valley;weeks;", 12);
        dueFault("valley;weeks 7;", 14);
        dueFault("valley;weeks 7 9 9;", 17);
    }

    @Sentence(promise = 10, says = "peg i;")
    static void theFirstAndTheLastPegTold() {
        YearStretch x = told("valley;peg 0;peg 6;");
        for (int i = 0; i < 7; i++) {
            due("peg " + i + ", driven or drawn", x.peg(i), i == 0 || i == 6 ? 0 : 1);
        }
        dueRead("valley;peg 0;peg 6;", 3);
        dueFault("valley;peg 7;", 11);
        dueFault("valley;peg 99;", 11);
        dueFault("valley;peg;", 10);
        dueFault("valley;peg 6 0;", 13);
    }

    @Sentence(promise = 10, says = "team KIND STRONG s;")
    static void teamsToldByTheEdgesOfTheirNumbers() {
        YearStretch x = told("valley;team 0 1 0;team 5 9 7;");
        int[][] want = {{0, 1, 0}, {5, 9, 7}};
        for (int i = 0; i < 2; i++) {
            for (int what = 0; what < 3; what++) {
                due("about(" + i + ", " + what + ")", x.about(i, what), want[i][what]);
            }
        }
        dueRead("valley;team 0 1 0;team 5 9 7;", 3);
        dueFault("valley;team 6 1 0;", 12);
        dueFault("valley;team 0 0 0;", 14);
        dueFault("valley;team 0 10 0;", 14);
        dueFault("valley;team 0 1 8;", 16);
        dueFault("valley;team;", 11);
        dueFault("valley;team 0;", 13);
        dueFault("valley;team 0 1;", 15);
        dueFault("valley;team 0 1 0 0;", 18);
    }

    @Sentence(promise = 10, says = "work s n (1 .. 60).")
    static void worksToldByTheEdgesOfTheirNumbers() {
        YearStretch x = told("valley;weeks 7 60;work 0 1;work 7 60;");
        due("work of season 0", x.of(0, 3), 1);
        due("work of season 7", x.of(7, 3), 2);
        due("both are done", x.done(0), 3);
        x.weeks(7, 59);
        due("the second is not", x.done(0), 1);
        dueRead("valley;work 0 1;work 7 60;", 3);
        dueFault("valley;work 8 1;", 12);
        dueFault("valley;work 0 0;", 14);
        dueFault("valley;work 0 61;", 14);
        dueFault("valley;work;", 11);
        dueFault("valley;work 0;", 13);
        dueFault("valley;work 0 1 1;", 16);
    }

    // ---- tokens

    @Sentence(promise = 10, says = "TOKENS: words of letters a .. z,")
    static void wordsAreOfSmallLettersOnly() {
        for (int c = 0; c < 128; c++) {
            boolean blank = c == ' ';
            due("byte " + c + " alone", answer("" + (char) c), blank ? -11 : -10);
            due("byte " + c + " behind valley;", answer("valley;" + (char) c), blank ? 1 : -17);
            boolean letter = c >= 'a' && c <= 'z';
            int fault = letter ? -10 : c == ';' ? 1 : blank ? -17 : -16;
            due("byte " + c + " at valley's end", answer("valley" + (char) c), fault);
        }
    }

    @Sentence(promise = 10, says = "TOKENS: words of letters a .. z,")
    static void aWordGoesOnToItsLastLetter() {
        dueFault("valleya;", 0);
        dueFault("valleyz;", 0);
        dueFault("valley;pega 0;", 7);
        dueFault("valley;pegpeg 0;", 7);
        dueFault("VALLEY;", 0);
        dueFault("valleY;", 0);
    }

    @Sentence(promise = 10, says = "figures (1 or 2 are one number),")
    static void aNumberIsOfOneOrTwoFigures() {
        for (int c = 0; c < 128; c++) {
            boolean figure = c >= '0' && c <= '9';
            boolean fits = c >= '0' && c <= '6';
            due("byte " + c + " for a peg", answer("valley;peg " + (char) c), fits || c == ' ' ? -22 : -21);
            int fault = c == ';' ? 2 : c == ' ' || fits ? -23 : figure ? -21 : -22;
            due("byte " + c + " behind a peg's 0", answer("valley;peg 0" + (char) c), fault);
        }
        dueRead("valley;peg 6;", 2);
        dueRead("valley;peg 06;", 2);
        dueRead("valley;weeks 07 09;team 05 09 07;work 07 60;", 4);
    }

    @Sentence(promise = 10, says = "; ; blanks (32) between.")
    static void blanksAreOfByte32Only() {
        dueRead("  valley  ;  weeks  0  1  ;  ", 2);
        dueRead("valley;weeks 0 1;peg 3;", 3);
        for (int c : new int[] {0, 9, 10, 13, 31, 33, 127}) {
            due("byte " + c + " ahead of all", answer((char) c + "valley;"), -10);
            due("byte " + c + " ahead of ;", answer("valley" + (char) c + ";"), -16);
            due("byte " + c + " between", answer("valley;peg" + (char) c + "0;"), -20);
            due("byte " + c + " behind all", answer("valley;" + (char) c), -17);
        }
    }

    @Sentence(promise = 10, says = "; ; blanks (32) between.")
    static void blanksPartNumbers() {
        YearStretch x = told("valley;weeks 1 2;");
        dueWeeks(x, "told", 7, 2, 7, 7, 7, 7, 7, 7);
        // 12 is no season
        dueFault("valley;weeks 12;", 13);
        dueFault("valley;peg 0 0;", 13);
        dueFault("val ley;", 0);
    }

    // ---- the fault

    @Sentence(promise = 10, says = "FAULT: the place of the first byte of the first TOKEN that can not stand there")
    static void aFaultAtTheFirstToken() {
        dueFault("x", 0);
        dueFault("7;", 0);
        dueFault(";", 0);
        dueFault("-", 0);
        dueFault("peg 0;", 0);
        dueFault("   valle;", 3);
    }

    @Sentence(promise = 10, says = "FAULT: the place of the first byte of the first TOKEN that can not stand there")
    static void aFaultAtTheLastToken() {
        dueFault("valley;peg 0;x", 13);
        dueFault("valley;peg 0;5", 13);
        dueFault("valley;peg 0;;", 13);
        dueFault("valley;peg 0;-", 13);
        dueFault("valley;peg 0;  valley", 15);
        due("at byte 149", answer(padded("valley;peg 0;", "x", 150)), -10 - 149);
        due("at byte 144", answer(padded("valley;peg 0;", "valley", 150)), -10 - 144);
    }

    @Sentence(promise = 10, says = "FAULT: the place of the first byte of the first TOKEN that can not stand there")
    static void theFirstOfTwoFaults() {
        dueFault("valley;peg 7;work 0 0;", 11);
        dueFault("valley;work 8 0;", 12);
        dueFault("valley;team 6 0 8;", 12);
        dueFault("valley;team 5 0 8;", 14);
        dueFault("valley;weeks 0 1 x;peg 7;", 17);
    }

    @Sentence(promise = 10, says = "(a word that is none,")
    static void aWordThatIsNone() {
        dueFault("valley;pegs 0;", 7);
        dueFault("valley;pe 0;", 7);
        dueFault("valley;week 0 1;", 7);
        dueFault("valley;weekss 0 1;", 7);
        dueFault("valley;teams 0 1 0;", 7);
        dueFault("valley;tea 0 1 0;", 7);
        dueFault("valley;works 0 1;", 7);
        dueFault("valley;wor 0 1;", 7);
        dueFault("valley;a", 7);
        dueFault("valle;", 0);
        dueFault("valleys;", 0);
    }

    @Sentence(promise = 10, says = "(a word that is none,")
    static void aWordWithAnotherLetterIsNone() {
        String[] items = {"weeks 0 1;", "peg 0;", "team 0 1 0;", "work 0 1;"};
        for (String item : items) {
            for (int i = 0; i < item.indexOf(' '); i++) {
                String other = item.substring(0, i) + "q" + item.substring(i + 1);
                due("read of " + other, answer("valley;" + other), -17);
            }
        }
        for (int i = 0; i < 6; i++) {
            due("valley with another letter", answer("valley".substring(0, i) + "q" + "valley;".substring(i + 1)), -10);
        }
    }

    @Sentence(promise = 10, says = "valley again,")
    static void valleyAgain() {
        dueFault("valley;valley;", 7);
        dueFault("valley;valley", 7);
        dueFault("valley valley;", 7);
        dueFault("valley;peg 0;valley;", 13);
        dueFault("valley;" + SIX_TEAMS + "valley;", 7 + SIX_TEAMS.length());
    }

    @Sentence(promise = 10, says = "anything ahead of it,")
    static void anythingAheadOfValley() {
        dueFault("weeks 0 1;valley;", 0);
        dueFault("peg 0;valley;", 0);
        dueFault("team 0 1 0;valley;", 0);
        dueFault("work 0 1;valley;", 0);
        dueFault("0 valley;", 0);
        dueFault("; valley;", 0);
        dueFault("  -valley;", 2);
        dueFault("q valley;", 0);
    }

    @Sentence(promise = 10, says = "a 7th team,")
    static void a7thTeam() {
        String six = "valley;" + SIX_TEAMS;
        dueRead(six, 7);
        dueFault(six + "team 0 1 0;", six.length());
        dueFault(six + " team", six.length() + 1);
        dueFault(six + "team 9 9 9;", six.length());
        dueRead(six + "peg 0;work 0 1;", 9);
    }

    @Sentence(promise = 10, says = "a 7th work at its word,")
    static void a7thWork() {
        String six = "valley;" + SIX_WORKS;
        dueRead(six, 7);
        dueFault(six + "work 0 1;", six.length());
        dueFault(six + "  work", six.length() + 2);
        dueFault(six + "work 9 99;", six.length());
        dueRead(six + "peg 0;team 0 1 0;", 9);
    }

    @Sentence(promise = 10, says = "a 7th team, a 7th work at its word,")
    static void sixTeamsAndSixWorks() {
        String both = "valley;" + SIX_TEAMS + SIX_WORKS;
        YearStretch x = told(both);
        due("teams", x.count(0), 6);
        due("works", x.count(1), 6);
        for (int i = 0; i < 6; i++) {
            due("kind", x.about(i, 0), i);
            due("teams of season " + i, x.of(i, 2), 1 << i);
            due("works of season " + i, x.of(i, 3), 1 << i);
        }
        due("items", answer(both), 13);
        due("a 7th team", answer(both + "team"), -10 - both.length());
        due("a 7th work", answer(both + "work"), -10 - both.length());
    }

    @Sentence(promise = 10, says = "a 7th team, a 7th work at its word,")
    static void theOnesThatWereThereDoNotCount() {
        YearStretch x = told("valley;" + SIX_TEAMS + SIX_WORKS);
        due("six of each, again", x.read(), 13);
        due("teams", x.count(0), 6);
        due("works", x.count(1), 6);
        x.clear();
        type(x, "valley;team 3 3 3;");
        due("one team", x.read(), 2);
        due("teams", x.count(0), 1);
        due("works", x.count(1), 0);
        due("kind", x.about(0, 0), 3);
    }

    @Sentence(promise = 10, says = "a third figure's number,")
    static void aThirdFiguresNumber() {
        dueFault("valley;peg 000;", 11);
        dueFault("valley;peg 006", 11);
        dueFault("valley;peg 0006;", 11);
        dueFault("valley;weeks 000 1;", 13);
        dueFault("valley;weeks 0 001;", 15);
        dueFault("valley;weeks 0 099;", 15);
        dueFault("valley;weeks 0123;", 13);
        dueFault("valley;team 000 1 0;", 12);
        dueFault("valley;team 0 001 0;", 14);
        dueFault("valley;team 0 1 000;", 16);
        dueFault("valley;work 0 001;", 14);
        dueFault("000;", 0);
        dueFault("valley;000;", 7);
        // wrap-arounds of 0 in a byte, in 32 and in 64 bits
        dueFault("valley;peg 256;", 11);
        dueFault("valley;peg 4294967296;", 11);
        dueFault("valley;peg 18446744073709551616;", 11);
    }

    @Sentence(promise = 10, says = "a number not as told,")
    static void aNumberNotAsTold() {
        int[][] most = {{7, 99}, {6}, {5, 9, 7}, {7, 60}};
        int[][] least = {{0, 0}, {0}, {0, 1, 0}, {0, 1}};
        String[] words = {"weeks", "peg", "team", "work"};
        for (int item = 0; item < 4; item++) {
            for (int place = 0; place < most[item].length; place++) {
                for (int n = 0; n < 100; n++) {
                    StringBuilder text = new StringBuilder("valley;" + words[item]);
                    int fault = 0;
                    for (int i = 0; i < most[item].length; i++) {
                        fault = i == place ? text.length() + 1 : fault;
                        text.append(' ').append(i == place ? n : least[item][i]);
                    }
                    boolean fits = n >= least[item][place] && n <= most[item][place];
                    due("read of " + text, answer(text + ";"), fits ? 2 : -10 - fault);
                }
            }
        }
    }

    @Sentence(promise = 10, says = "a number not as told,")
    static void anotherTokenForANumber() {
        dueFault("valley;peg peg;", 11);
        dueFault("valley;peg ;", 11);
        dueFault("valley;peg -1;", 11);
        dueFault("valley;weeks 0 x;", 15);
        dueFault("valley;team 0 1 valley;", 16);
    }

    @Sentence(promise = 10, says = "a byte that begins none, too);")
    static void aByteThatBeginsNone() {
        for (int c : new int[] {0, 31, 33, '/', ':', '<', 'A', 'Z', '`', '{', 127}) {
            char b = (char) c;
            due("byte " + c + " first", answer(b + "valley;"), -10);
            due("byte " + c + " in valley", answer("valley" + b + ";"), -16);
            due("byte " + c + " for a word", answer("valley;" + b + ";"), -17);
            due("byte " + c + " for a number", answer("valley;peg " + b + ";"), -21);
            due("byte " + c + " behind a number", answer("valley;peg 0" + b + ";"), -22);
            due("byte " + c + " for ;", answer("valley;peg 0 " + b), -23);
            due("byte " + c + " last", answer("valley;peg 0; " + b), -24);
        }
    }

    @Sentence(promise = 10, says = "the TEXT's length, if it ends too early (an empty one, too).")
    static void anEmptyText() {
        dueFault("", 0);
        YearStretch x = new YearStretch();
        due("read of a new one", x.read(), -10);
        x.type('v');
        x.clear();
        due("read of one that was cleared", x.read(), -10);
    }

    @Sentence(promise = 10, says = "the TEXT's length, if it ends too early (an empty one, too).")
    static void aTextOfBlanks() {
        dueFault(" ", 1);
        dueFault("     ", 5);
    }

    @Sentence(promise = 10, says = "the TEXT's length, if it ends too early (an empty one, too).")
    static void everyBeginningOfAText() {
        String text = "valley;weeks 1 2;peg 3;team 4 5 6;work 7 8;";
        int items = 0;
        int word = 0;
        for (int length = 1; length <= text.length(); length++) {
            char last = text.charAt(length - 1);
            boolean letter = last >= 'a' && last <= 'z';
            boolean halfWord = letter && text.charAt(length) >= 'a' && text.charAt(length) <= 'z';
            word = letter ? word : length;
            items += last == ';' ? 1 : 0;
            int want = last == ';' ? items : halfWord ? -10 - word : -10 - length;
            due("read of '" + text.substring(0, length) + "'", answer(text.substring(0, length)), want);
        }
    }

    @Sentence(promise = 10, says = "the TEXT's length, if it ends too early (an empty one, too).")
    static void aTextThatEndsInBlanksEndsAtItsLength() {
        dueFault("valley  ", 8);
        dueFault("valley;peg   ", 13);
        dueFault("valley;peg 6 ", 13);
        dueRead("valley;peg 6;  ", 2);
    }

    // ---- what is read takes the place of what was

    @Sentence(promise = 10, says = "A VALLEY that is read takes the place of all but IMAGES, THE TEXT, THE FRACTION, STATUS "
            + "(TURN 0, MEASURED none; nothing to undo).")
    static void aValleyThatIsReadTakesThePlaceOfAll() {
        YearStretch x = ground();
        x.clear();
        type(x, "valley;weeks 0 9;team 4 5 6;");
        due("read", x.read(), 3);
        due("turn", x.count(2), 0);
        due("measured", x.count(4), 0);
        due("that may be undone", x.count(5), 0);
        due("digest", x.digest(), mix(mix(1109, 1, 0, 0, 58, 0, 0, 28, 9, 7, 7, 7, 7, 7, 7, 7),
                0, 0, 0, 0, 0, 0, 0, 4, 5, 6, 3, 10));
        due("undo", x.undo(), NO);
    }

    @Sentence(promise = 10, says = "A VALLEY that is read takes the place of all but IMAGES, THE TEXT, THE FRACTION, STATUS")
    static void imagesTextFractionAndStatusStay() {
        YearStretch x = ground();
        x.peg(7);
        x.from(1);
        type(x, "   ");
        int bytes = x.count(6);
        due("read", x.read(), 7);
        due("the text", x.count(6), bytes);
        dueFraction(x, "read", 3, 10);
        dueStatus(x, "read", 1, 1, 0);
        x.clear();
        type(x, "valley;");
        x.read();
        due("the image", x.from(0), 1);
        due("its teams", x.count(0), 2);
        due("the other image", x.from(1), NO);
    }

    @Sentence(promise = 10, says = "(TURN 0, MEASURED none; nothing to undo).")
    static void theReadValleyGoesOnFromTurnZero() {
        YearStretch x = ground();
        x.turn(1);
        due("an odd turn", x.count(2) % 2, 1);
        x.clear();
        type(x, "valley;team 0 1 1;");
        x.read();
        due("from", x.about(0, 3), 0);
        due("turn(1)", x.turn(1), 1);
        due("undo", x.undo(), 0);
        due("no more", x.undo(), NO);
    }
}
