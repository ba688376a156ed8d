/** The boundary cases that the document's "Text" names, sentence by sentence, and those of feed, load, errorPosition. */
public final class TextEdgeTest {
    private static final int NOT_ALLOWED = 1;
    private static final int OUT_OF_RANGE = 2;
    private static final int TWICE = 3;
    private static final int TOO_MANY = 4;
    private static final String[] FAR_OUT = {"2147483647", "2147483648", "4294967296", "4294967299", "18446744073709551616",
        "18446744073709551619", "99999999999999999999999999999999999999", "1000000", "10000003"};

    private TextEdgeTest() {
    }

    public static void main(String[] args) {
        words();
        keywords();
        numbers();
        semicolons();
        blanks();
        invalidBytes();
        wholeText();
        stretchesAheadOfStrikers();
        emptyScript();
        ordersThereAre();
        rangesOfText();
        rangesOfScript();
        fillOfAScript();
        atMostTwentyOrders();
        firstErrorAlongTheText();
        firstByteOfItsToken();
        smallestCode();
        invalidOrNotAllowed();
        endsTooEarly();
        outOfRange();
        twice();
        thirteenthStretch();
        thirtyFirstStriker();
        twentyFirstOrder();
        feedReturns();
        feedBeyond600();
        feedOrder();
        loadReplaces();
        loadEmpties();
        loadAnswers();
        loadWithError();
        loadThrows();
        errorPositionOf();
        errorPositionNone();
        Check.close("TextEdgeTest");
    }

    // ---- what a text or a script answers

    private static void text(String text, int last) {
        StrikeWheels x = new StrikeWheels();
        Check.same("load of " + text, Check.load(x, text), last);
        Check.same("no error in " + text, x.errorPosition(), -1);
    }

    private static void textError(String text, int code, int position) {
        Edges.errorAndKeeps(text, false, code, position);
    }

    /** Of a new object: LAST 30, the row 3. */
    private static void script(String text, int done) {
        StrikeWheels x = new StrikeWheels();
        Check.same("play of " + text, Check.play(x, text), done);
        Check.same("no error in " + text, x.errorPosition(), -1);
    }

    private static void scriptError(String text, int code, int position) {
        Edges.errorAndKeeps(text, true, code, position);
    }

    private static String withByte(String ahead, int value, String behind) {
        return ahead + (char) value + behind;
    }

    // ---- tokens

    private static void words() {
        Edges.sentence("a word is a maximal run of the letters a to z");
        text("sieve1;stretch9;striker3;", 10);
        textError("siev 1;", NOT_ALLOWED, 0);
        textError("sievee 1;", NOT_ALLOWED, 0);
        textError("sievea 1;", NOT_ALLOWED, 0);
        textError("sievez 1;", NOT_ALLOWED, 0);
        textError("asieve 1;", NOT_ALLOWED, 0);
        textError("zsieve 1;", NOT_ALLOWED, 0);
        textError("sieve` 1;", NOT_ALLOWED, 5);
        textError("sieve{ 1;", NOT_ALLOWED, 5);
        textError("sievE 1;", NOT_ALLOWED, 0);
        textError("sieve 1;stretchstretch 4;", NOT_ALLOWED, 8);
        textError("sieve 1;strikers 4;", NOT_ALLOWED, 8);
        textError("sieve 1;stretc 4;", NOT_ALLOWED, 8);
        script("lay3;drop;", 2);
        scriptError("dropdrop;", NOT_ALLOWED, 0);
        scriptError("drop;layz 3;", NOT_ALLOWED, 5);
        for (char letter = 'a'; letter <= 'z'; letter++) {
            textError("sieve" + letter + "1;", NOT_ALLOWED, 0);
            scriptError("drop" + letter + ";", NOT_ALLOWED, 0);
        }
    }

    /** Of each keyword each letter counts. */
    private static void keywords() {
        Edges.sentence("Grammar (quoted = literal");
        everyLetter("", "sieve", " 1;", false);
        everyLetter("sieve 1;", "stretch", " 3;", false);
        everyLetter("sieve 1;", "striker", " 3;", false);
        for (String order : new String[] {"lay", "add", "lift", "first", "swap 5", "wheel", "fill"}) {
            String word = order.split(" ")[0];
            everyLetter("", word, order.substring(word.length()) + " 3;", true);
            everyLetter("drop;", word, order.substring(word.length()) + " 3;", true);
        }
        everyLetter("", "drop", ";", true);
    }

    private static void everyLetter(String ahead, String word, String behind, boolean isScript) {
        for (int index = 0; index < word.length(); index++) {
            for (char letter : new char[] {'a', 'q', 'z'}) {
                char[] letters = word.toCharArray();
                letters[index] = letter == letters[index] ? 'b' : letter;
                Edges.errorAndKeeps(ahead + new String(letters) + behind, isScript, NOT_ALLOWED, ahead.length());
            }
            Edges.errorAndKeeps(ahead + word.substring(0, index) + word.substring(index + 1) + behind, isScript, NOT_ALLOWED,
                    ahead.length());
        }
    }

    private static void numbers() {
        Edges.sentence("a number is a maximal run of digits (leading zeros are allowed)");
        text("sieve 0000000000000000000000000000000000000004;", 1);
        text("sieve 00;stretch 0400;stretch 0001;striker 02;striker 000120;", 402);
        script("lay 003;add 0005;wheel 00;fill 030;swap 03 005;", 5);
        textError("sieve 000;stretch 000;", OUT_OF_RANGE, 18);
        textError("sieve 0000000005;", OUT_OF_RANGE, 6);
        textError("sieve 1 2;", NOT_ALLOWED, 8);
        textError("sieve 12;", OUT_OF_RANGE, 6);
        textError("sieve 1;stretch 40 0;", NOT_ALLOWED, 19);
        textError("sieve 1;stretch 4000;", OUT_OF_RANGE, 16);
        textError("sieve 1/;", NOT_ALLOWED, 7);
        textError("sieve 1:;", NOT_ALLOWED, 7);
        textError("sieve -1;", NOT_ALLOWED, 6);
        textError("sieve +1;", NOT_ALLOWED, 6);
        textError("sieve 1.0;", NOT_ALLOWED, 7);
        StrikeWheels x = Check.of("sieve 0;stretch 109;stretch 238;stretch 345;stretch 167;");
        int[] rooms = {109, 238, 345, 167};
        for (int stretch = 0; stretch < rooms.length; stretch++) {
            Check.same("all digits: " + rooms[stretch], x.stretch(stretch, 1) - x.stretch(stretch, 0) + 1, rooms[stretch]);
        }
    }

    private static void semicolons() {
        Edges.sentence("; is a token");
        text("sieve 1;stretch 4;", 5);
        textError("sieve 1", NOT_ALLOWED, 7);
        textError("sieve 1;;", NOT_ALLOWED, 8);
        textError(";sieve 1;", NOT_ALLOWED, 0);
        textError("sieve;1;", NOT_ALLOWED, 5);
        textError("sieve 1:stretch 4;", NOT_ALLOWED, 7);
        scriptError(";", NOT_ALLOWED, 0);
        scriptError("drop;;", NOT_ALLOWED, 5);
        scriptError("drop drop;", NOT_ALLOWED, 5);
    }

    private static void blanks() {
        Edges.sentence("The bytes 32 and 10 separate tokens and are otherwise ignored");
        text("\n  \nsieve\n\n1 \n;  stretch\n4 ;\nstriker 9\n; \n", 5);
        text("sieve 1;stretch\n4;", 5);
        textError("sie ve 1;", NOT_ALLOWED, 0);
        textError("sie\nve 1;", NOT_ALLOWED, 0);
        textError("sieve 1;stretch 4\n0;", NOT_ALLOWED, 18);
        script(" \n ", 0);
        script("\nswap\n3\n3\n;\n", 1);
        script("swap 3 3;", 1);
        scriptError("swap 33;", NOT_ALLOWED, 7);
        scriptError("la y 3;", NOT_ALLOWED, 0);
    }

    private static void invalidBytes() {
        Edges.sentence("Every other byte is an invalid token");
        for (int value = 0; value < 256; value++) {
            boolean isBlank = value == 32 || value == 10;
            boolean isLetter = value >= 97 && value <= 122;
            boolean isDigit = value >= 48 && value <= 57;
            String between = withByte("sieve", value, "1;");
            if (isBlank || value == 48) {
                text(between, 1);
            } else {
                textError(between, isDigit ? OUT_OF_RANGE : NOT_ALLOWED, isLetter ? 0 : 5);
            }
            String behind = withByte("drop;", value, "");
            if (isBlank) {
                script(behind, 1);
            } else {
                scriptError(behind, NOT_ALLOWED, 5);
            }
            String inside = withByte("sieve 4;stretch 1", value, "1;");
            if (isDigit) {
                text(inside, 102 + 10 * (value - 48));
            } else {
                textError(inside, NOT_ALLOWED, isBlank || value == ';' ? 18 : 17);
            }
        }
    }

    // ---- the grammar

    private static void wholeText() {
        Edges.sentence("text: 'sieve' WHEEL ';' stretch* striker*");
        text("sieve 0;", 1);
        text("sieve 0;stretch 9;", 10);
        text("sieve 0;striker 9;", 1);
        text("sieve 0;stretch 9;stretch 8;striker 9;striker 8;", 18);
        textError("", NOT_ALLOWED, 0);
        textError("stretch 9;", NOT_ALLOWED, 0);
        textError("1;", NOT_ALLOWED, 0);
        textError("sieve 0;sieve 0;", NOT_ALLOWED, 8);
        textError("sieve 0;lay 3;", NOT_ALLOWED, 8);
        textError("sieve 0;9;", NOT_ALLOWED, 8);
        textError("sieve 0;stretch;", NOT_ALLOWED, 15);
        textError("sieve 0;striker;", NOT_ALLOWED, 15);
        textError("sieve 0;striker x;", NOT_ALLOWED, 16);
        textError("sieve 0;stretch 3 striker 3;", NOT_ALLOWED, 18);
    }

    private static void stretchesAheadOfStrikers() {
        Edges.sentence("stretch: 'stretch' ROOM ';' striker: 'striker' D ';'");
        text("sieve 0;stretch 4;striker 4;", 5);
        textError("sieve 0;striker 4;stretch 4;", NOT_ALLOWED, 18);
        textError("sieve 0;stretch 4 5;", NOT_ALLOWED, 18);
        textError("sieve 0;striker 4 5;", NOT_ALLOWED, 18);
    }

    private static void emptyScript() {
        Edges.sentence("script: order*");
        script("", 0);
        script("drop;", 1);
        script("drop;lay 4;drop;", 3);
        scriptError("sieve 1;", NOT_ALLOWED, 0);
    }

    private static void ordersThereAre() {
        Edges.sentence("order: 'lay' ROOM ';' | 'drop' ';' | 'add' D ';' | 'lift' D ';' | 'first' D ';' | 'swap' D D ';'"
                + " | 'wheel' WHEEL ';' | 'fill' number ';'");
        script("lay 10;add 5;first 5;swap 5 3;lift 3;wheel 2;fill 3;drop;", 8);
        for (String word : new String[] {"trim 3;", "tidy;", "play;", "undo;", "stretch 3;", "striker 5;", "sieve 1;", "7;", ";"}) {
            scriptError(word, NOT_ALLOWED, 0);
            scriptError("drop;" + word, NOT_ALLOWED, 5);
        }
        for (String word : new String[] {"lay", "add", "lift", "first", "wheel", "fill", "swap", "swap 3"}) {
            scriptError(word + ";", NOT_ALLOWED, word.length());
            scriptError(word + " x;", NOT_ALLOWED, word.length() + 1);
        }
        for (String word : new String[] {"lay", "add", "lift", "first", "wheel", "fill", "swap 3"}) {
            scriptError(word + " 3 4;", NOT_ALLOWED, word.length() + 3);
            scriptError(word + " 3", NOT_ALLOWED, word.length() + 2);
        }
        scriptError("drop 3;", NOT_ALLOWED, 5);
        scriptError("drop", NOT_ALLOWED, 4);
    }

    private static void rangesOfText() {
        Edges.sentence("2 A number that is out of range.");
        text("sieve 0;", 1);
        text("sieve 4;", 1);
        textError("sieve 5;", OUT_OF_RANGE, 6);
        text("sieve 0;stretch 1;", 2);
        text("sieve 0;stretch 400;", 401);
        textError("sieve 0;stretch 0;", OUT_OF_RANGE, 16);
        textError("sieve 0;stretch 401;", OUT_OF_RANGE, 16);
        text("sieve 0;striker 2;", 1);
        text("sieve 0;striker 120;", 1);
        textError("sieve 0;striker 1;", OUT_OF_RANGE, 16);
        textError("sieve 0;striker 0;", OUT_OF_RANGE, 16);
        textError("sieve 0;striker 121;", OUT_OF_RANGE, 16);
        for (String number : FAR_OUT) {
            textError("sieve " + number + ";", OUT_OF_RANGE, 6);
            textError("sieve 0;stretch " + number + ";", OUT_OF_RANGE, 16);
            textError("sieve 0;striker " + number + ";", OUT_OF_RANGE, 16);
        }
    }

    private static void rangeOfOrder(String word, int least, int most) {
        for (String number : new String[] {String.valueOf(least), String.valueOf(most)}) {
            StrikeWheels x = new StrikeWheels();
            Check.isTrue("play of " + word + number, Check.play(x, word + number + ";") >= 0);
            Check.same("error position of " + word + number, x.errorPosition(), -1);
        }
        if (least > 0) {
            scriptError(word + (least - 1) + ";", OUT_OF_RANGE, word.length());
        }
        scriptError(word + (most + 1) + ";", OUT_OF_RANGE, word.length());
        for (String number : FAR_OUT) {
            scriptError(word + number + ";", OUT_OF_RANGE, word.length());
        }
    }

    private static void rangesOfScript() {
        Edges.sentence("2 A number that is out of range.");
        rangeOfOrder("lay ", 1, 400);
        rangeOfOrder("add ", 2, 120);
        rangeOfOrder("lift ", 2, 120);
        rangeOfOrder("first ", 2, 120);
        rangeOfOrder("swap 3 ", 2, 120);
        rangeOfOrder("wheel ", 0, 4);
        scriptError("swap 1 3;", OUT_OF_RANGE, 5);
        scriptError("swap 121 3;", OUT_OF_RANGE, 5);
        script("swap 2 120;", 0);
        script("swap 120 2;", 0);
    }

    private static void fillOfAScript() {
        Edges.sentence("In a script the number of a fill is 1 to 30");
        rangeOfOrder("fill ", 1, 30);
    }

    private static void atMostTwentyOrders() {
        Edges.sentence("there are at most 20 orders");
        script("wheel 2;".repeat(19), 19);
        script("wheel 2;".repeat(20), 20);
        script("wheel 2;".repeat(20) + " \n", 20);
        scriptError("wheel 2;".repeat(21), TOO_MANY, 160);
        scriptError("wheel 2;".repeat(40), TOO_MANY, 160);
    }

    // ---- error codes

    private static void firstErrorAlongTheText() {
        Edges.sentence("Error codes. The first error along the text is reported");
        textError("sieve 9;stretch 0;oh", OUT_OF_RANGE, 6);
        textError("sieve 1;stretch 0;striker 3;striker 3;", OUT_OF_RANGE, 16);
        textError("sieve 1;striker 3;striker 3;striker 1;", TWICE, 26);
        textError("sieve 1;striker 3;striker 1;striker 3;", OUT_OF_RANGE, 26);
        textError("sieve 1;oh;striker 1;", NOT_ALLOWED, 8);
        textError("sieve 1;striker 3;striker 3 A", TWICE, 26);
        textError("sieve 1;" + Edges.stretches(12, 1) + "striker 1;stretch 1;", OUT_OF_RANGE, 136);
        textError("1;stretch 0;", NOT_ALLOWED, 0);
        textError("sieve 1 stretch 0;", NOT_ALLOWED, 8);
        textError("sieve 1;stretch 3 stretch 0;", NOT_ALLOWED, 18);
        textError("sieve 1;stretch 3 striker 1;", NOT_ALLOWED, 18);
        textError("sieve 1;striker 3 striker 3;", NOT_ALLOWED, 18);
        textError("sieve;stretch 0;", NOT_ALLOWED, 5);
        scriptError("drop drop;lay 0;", NOT_ALLOWED, 5);
        scriptError("lay 3 lay 0;", NOT_ALLOWED, 6);
        scriptError("lay;lay 0;", NOT_ALLOWED, 3);
        scriptError("lay 0;wheel 9;", OUT_OF_RANGE, 4);
        scriptError("lay 1;oh;wheel 9;", NOT_ALLOWED, 6);
        scriptError("swap 1 1;", OUT_OF_RANGE, 5);
        scriptError("swap 2 1;", OUT_OF_RANGE, 7);
        scriptError("wheel 9;" + "wheel 2;".repeat(20), OUT_OF_RANGE, 6);
        scriptError("wheel 2;".repeat(20) + "wheel 9;", TOO_MANY, 160);
    }

    private static void firstByteOfItsToken() {
        Edges.sentence("at the first byte of its token");
        textError("   sievex 1;", NOT_ALLOWED, 3);
        textError("sieve  0005;", OUT_OF_RANGE, 7);
        textError("sieve 1;  \nstretches 3;", NOT_ALLOWED, 11);
        textError("sieve 1;striker 12;striker  0012;", TWICE, 28);
        scriptError("\n\n lay  00401 ;", OUT_OF_RANGE, 8);
        scriptError("drop ;  tidy ;", NOT_ALLOWED, 8);
    }

    private static void smallestCode() {
        Edges.sentence("if several codes apply to one token, the smallest one");
        textError("sieve 1;" + Edges.stretches(12, 1) + "striker 3;stretch 1;", NOT_ALLOWED, 138);
        scriptError("drop 999;", NOT_ALLOWED, 5);
        textError("sieve 1;stretch 3 999;", NOT_ALLOWED, 18);
        textError("sieve 1;striker 3;striker 4 3;", NOT_ALLOWED, 28);
        scriptError("wheel 2;".repeat(20) + "tidy;", NOT_ALLOWED, 160);
        scriptError("wheel 2;".repeat(20) + "wheel2x;", TOO_MANY, 160);
        textError("sieve 1;" + Edges.strikers(2, 30) + "stretch 3;", NOT_ALLOWED, 8 + 8 * 10 + 22 * 11);
    }

    private static void invalidOrNotAllowed() {
        Edges.sentence("1 The token is invalid or not allowed here");
        textError("sieve @1;", NOT_ALLOWED, 6);
        textError("sieve stretch;", NOT_ALLOWED, 6);
        textError("sieve ;", NOT_ALLOWED, 6);
        textError("sieve 1 stretch 3;", NOT_ALLOWED, 8);
        textError("sieve 1;@", NOT_ALLOWED, 8);
        textError("sieve 1;stretch striker;", NOT_ALLOWED, 16);
        textError("sieve 1;striker 4;sieve 1;", NOT_ALLOWED, 18);
        textError("sieve 1;striker 4;drop;", NOT_ALLOWED, 18);
        scriptError("lay lay;", NOT_ALLOWED, 4);
        scriptError("@", NOT_ALLOWED, 0);
        scriptError("lay 3@;", NOT_ALLOWED, 5);
    }

    /** Every length of a text that is cut off: right ones, and where the token stands that is not allowed. */
    private static void cut(String text, boolean isScript, int[] right, int[] wordsBegin, int[] wordsEnd) {
        for (int length = 0; length <= text.length(); length++) {
            boolean isRight = false;
            for (int end : right) {
                isRight |= end == length;
            }
            int position = length;
            for (int word = 0; word < wordsBegin.length; word++) {
                position = length > wordsBegin[word] && length < wordsEnd[word] ? wordsBegin[word] : position;
            }
            StrikeWheels x = new StrikeWheels();
            Check.feed(x, text);
            int answer = isScript ? x.play(length) : x.load(length);
            Check.same(length + " bytes of " + text, answer < 0 ? answer : 0, isRight ? 0 : -11);
            Check.same("error position of " + length + " bytes of " + text, x.errorPosition(), isRight ? -1 : position);
        }
    }

    private static void endsTooEarly() {
        Edges.sentence("or the text ends too early (the position is then the length of the text)");
        textError("", NOT_ALLOWED, 0);
        textError(" \n ", NOT_ALLOWED, 3);
        textError("sieve", NOT_ALLOWED, 5);
        textError("sieve \n ", NOT_ALLOWED, 8);
        textError("sieve 1 ", NOT_ALLOWED, 8);
        textError("sieve 1;stretch", NOT_ALLOWED, 15);
        textError("sieve 1;stretch 3  ", NOT_ALLOWED, 19);
        textError("sieve 1;striker   ", NOT_ALLOWED, 18);
        scriptError("swap 3 ", NOT_ALLOWED, 7);
        scriptError("drop;lay", NOT_ALLOWED, 8);
        cut("sieve 2;stretch 20;stretch 9;striker 5;", false, new int[] {8, 19, 29, 39},
                new int[] {0, 8, 19, 29}, new int[] {5, 15, 26, 36});
        cut("lay 3;swap 3 3;drop;", true, new int[] {0, 6, 15, 20}, new int[] {0, 6, 15}, new int[] {3, 10, 19});
    }

    private static void outOfRange() {
        Edges.sentence("2 A number that is out of range.");
        StrikeWheels x = Check.of("sieve 3;stretch 7;striker 9;");
        Check.same("one too large", Check.load(x, "sieve 0;stretch 7;stretch 401;"), -12);
        Check.same("at its first byte", x.errorPosition(), 26);
        Check.same("nothing is taken of it", x.size(0), 3);
    }

    private static void twice() {
        Edges.sentence("3 The D of a striker of a text that an earlier one has.");
        text("sieve 1;striker 3;striker 4;", 1);
        textError("sieve 1;striker 3;striker 3;", TWICE, 26);
        textError("sieve 1;striker 3;striker 003;", TWICE, 26);
        textError("sieve 1;" + Edges.strikers(2, 29) + "striker 2;", TWICE, 8 + 8 * 10 + 21 * 11 + 8);
        textError("sieve 1;" + Edges.strikers(2, 29) + "striker 30;", TWICE, 8 + 8 * 10 + 21 * 11 + 8);
        textError("sieve 1;" + Edges.strikers(2, 30) + "striker 2;", TOO_MANY, 8 + 8 * 10 + 22 * 11);
        script("add 9;add 9;lay 1;", 1);
        StrikeWheels x = new StrikeWheels();
        Check.same("one that the object has, but not the text", Check.load(x, "sieve 1;striker 3;"), 1);
        Check.same("the same text again", Check.load(x, "sieve 1;striker 3;"), 1);
        Check.same("one of a text with an error", Check.load(x, "sieve 1;striker 5;oh"), -11);
        Check.same("is no earlier one", Check.load(x, "sieve 1;striker 5;"), 1);
    }

    private static void thirteenthStretch() {
        Edges.sentence("4 The keyword of the 13th stretch of a text");
        text("sieve 1;" + Edges.stretches(12, 1), 13);
        textError("sieve 1;" + Edges.stretches(13, 1), TOO_MANY, 128);
        textError("sieve 1;" + Edges.stretches(12, 1) + "stretch", TOO_MANY, 128);
        textError("sieve 1;" + Edges.stretches(12, 1) + "\n stretch 0;", TOO_MANY, 130);
        textError("sieve 1;" + Edges.stretches(14, 1), TOO_MANY, 128);
        StrikeWheels x = Check.of("sieve 1;" + Edges.stretches(12, 1));
        Check.same("each text counts anew", Check.load(x, "sieve 1;" + Edges.stretches(12, 1)), 13);
    }

    private static void thirtyFirstStriker() {
        Edges.sentence("of the 31st striker of a text");
        text("sieve 1;" + Edges.strikers(50, 30), 1);
        textError("sieve 1;" + Edges.strikers(50, 31), TOO_MANY, 338);
        textError("sieve 1;" + Edges.strikers(50, 30) + "striker", TOO_MANY, 338);
        textError("sieve 1;" + Edges.strikers(50, 30) + " striker 50;", TOO_MANY, 339);
        textError("sieve 1;" + Edges.strikers(50, 32), TOO_MANY, 338);
        StrikeWheels x = Check.of("sieve 1;" + Edges.strikers(50, 30));
        Check.same("each text counts anew", Check.load(x, "sieve 1;" + Edges.strikers(60, 30)), 1);
    }

    private static void twentyFirstOrder() {
        Edges.sentence("or of the 21st order");
        script("drop;" + "lay 9;".repeat(19), 13);
        scriptError("drop;".repeat(20) + "lay 9;", TOO_MANY, 100);
        scriptError("drop;".repeat(20) + "drop", TOO_MANY, 100);
        scriptError("drop;".repeat(20) + "\nfill 99;", TOO_MANY, 101);
        StrikeWheels x = new StrikeWheels();
        Check.same("20 orders", Check.play(x, "wheel 1;".repeat(20)), 20);
        Check.same("each script counts anew", Check.play(x, "wheel 1;".repeat(20)), 20);
    }

    // ---- feed, load, errorPosition

    private static void feedReturns() {
        Edges.sentence("Returns the number of bytes in the buffer");
        StrikeWheels x = new StrikeWheels();
        for (int bytes = 20; bytes <= 600; bytes += 20) {
            Check.same("feed " + bytes / 20, x.feed(Edges.LEAST, Edges.MOST, 0, -1, 1), bytes);
        }
        StrikeWheels y = new StrikeWheels();
        Check.illegalArgument("a new object's buffer is empty", () -> y.load(1));
        Check.same("load of nothing", y.load(0), -11);
    }

    private static void feedBeyond600() {
        Edges.sentence("NONE if it would exceed 600, and then nothing is appended");
        String text = "sieve 2;" + Edges.stretches(12, 5) + " ".repeat(600 - 8 - 120 - 10) + "striker 7;";
        StrikeWheels x = new StrikeWheels();
        Check.feed(x, text);
        for (int time = 0; time < 3; time++) {
            Check.same("one more", x.feed(0x64726f70, 0x3b64726f, 0x703b6472, 0x6f703b64, 0x726f703b), -1);
        }
        Check.illegalArgument("there are not 601", () -> x.load(601));
        Check.same("all 600 are as they were", x.load(600), 61);
        Check.same("the last ones, too", x.find(7), 0);
        Check.same("there is room again", x.feed(0, 0, 0, 0, 0), 20);
        Edges.tellsAndKeeps("feed to a full buffer", TextEdgeTest::full, y -> y.feed(1, 2, 3, 4, 5));
    }

    private static StrikeWheels full() {
        StrikeWheels x = Edges.busy();
        Check.feed(x, "sieve 2;" + Edges.stretches(12, 5) + " ".repeat(600 - 8 - 120));
        return x;
    }

    private static void feedOrder() {
        Edges.sentence("Appends 20 bytes to the buffer: the four bytes of each parameter, the most significant byte first.");
        StrikeWheels x = new StrikeWheels();
        x.feed(0x73696576, 0x6534_3b73, 0x74726574, 0x63683430, 0x303b2020);
        Check.same("sieve4;stretch400;", x.load(20), 401);
        Check.same("WHEEL", x.size(0), 4);
        int[] places = {0, 1, 2, 3};
        for (int place : places) {
            StrikeWheels y = new StrikeWheels();
            y.feed(0x20202020 | 0x80 << 24 - 8 * place, 0x20202020, 0x20202020, 0x20202020, 0x20202020);
            Check.same("a byte above 127", y.load(20), -11);
            Check.same("a byte above 127: its place", y.errorPosition(), place);
        }
        StrikeWheels z = new StrikeWheels();
        z.feed(0x20202020, 0x20202020, 0x20202020, 0x20202020, 0x20202040);
        Check.same("the last byte", z.play(20), -11);
        Check.same("the last byte: its place", z.errorPosition(), 19);
    }

    private static void loadReplaces() {
        Edges.sentence("Reads the first bytes of the buffer as a text, which replaces everything but the accounts;"
                + " the undo history and the snapshot are discarded.");
        StrikeWheels x = Edges.busy();
        Check.same("load", Check.load(x, "sieve 3;stretch 4;striker 8;"), 5);
        Check.same("WHEEL", x.size(0), 3);
        Check.same("stretches", x.size(1), 1);
        Check.same("strikers", x.size(3), 1);
        Check.same("marks", x.size(4), 3);
        Check.same("the row", x.find(8), 0);
        Check.same("nothing to undo", x.undoCount(), 0);
        Check.same("nothing to undo: undo", x.undo(), -1);
        Check.isTrue("no snapshot", !x.restoreSnapshot());
        int[] accounts = {3, 1, 1, 1, 1};
        for (int what = 0; what < accounts.length; what++) {
            Check.same("account(" + what + ")", x.account(what), accounts[what]);
        }
    }

    private static void loadEmpties() {
        Edges.promise(3, "The buffer is empty afterwards, also after an error.");
        for (int length : new int[] {8, 7, 20, 0}) {
            StrikeWheels x = new StrikeWheels();
            Check.feed(x, "sieve 2;            ");
            Check.same("load of " + length, x.load(length), length >= 8 ? 1 : -11);
            Check.illegalArgument("nothing is left of load of " + length, () -> x.load(1));
            Check.same("feed behind load of " + length, x.feed(0, 0, 0, 0, 0), 20);
        }
        Edges.promise(55, "The buffer is empty afterwards, also after an error.");
        for (int length : new int[] {5, 4, 20, 0}) {
            StrikeWheels x = new StrikeWheels();
            Check.feed(x, "drop;               ");
            Check.same("play of " + length, x.play(length), length >= 5 ? 1 : length == 0 ? 0 : -11);
            Check.illegalArgument("nothing is left of play of " + length, () -> x.play(1));
            Check.same("feed behind play of " + length, x.feed(0, 0, 0, 0, 0), 20);
        }
    }

    private static void loadAnswers() {
        Edges.sentence("Returns LAST; -10 minus the error code if the text has an error (then only the buffer and the error"
                + " position change).");
        textError("sieve", 1, 5);
        textError("sieve 5;", 2, 6);
        textError("sieve 1;striker 5;striker 5;", 3, 26);
        textError("sieve 1;" + Edges.stretches(13, 400), 4, 152);
        textError("sieve 4;stretch 9;stretch 8;striker 5;striker 7;striker", 1, 55);
        Edges.promise(55, "-10 minus the error code if the text has an error (then only the buffer and the error position change).");
        scriptError("lay 4;add 50;wheel 3;wheel 5;", 2, 27);
        scriptError("drop;lift 3;lay 4;first", 1, 23);
        scriptError("lay 400;".repeat(21), 4, 160);
    }

    private static void loadWithError() {
        Edges.sentence("not texts with errors");
        StrikeWheels x = new StrikeWheels();
        Check.load(x, "oh");
        Check.play(x, "oh");
        Check.play(x, "lift 9;oh");
        Check.same("account 1", x.account(1), 0);
        Check.play(x, "lift 9;");
        Check.same("account 1 of a right script", x.account(1), 1);
    }

    private static void loadThrows() {
        Edges.promise(3, "Throws `IllegalArgumentException` if length is negative or greater than the number of bytes in the"
                + " buffer (nothing changes)");
        lengthThrows("load", (x, length) -> x.load(length));
        Check.same("all there is", Edges.busyAndFed().load(20), 32);
        Check.same("nothing at all", Edges.busy().load(0), -11);
        Edges.promise(55, "Throws `IllegalArgumentException` if length is negative or greater than the number of bytes in the"
                + " buffer (nothing changes)");
        lengthThrows("play", (x, length) -> x.play(length));
        Check.same("all there is", Edges.busyAndFed().play(20), -11);
        Check.same("nothing at all", Edges.busy().play(0), 0);
    }

    private static void lengthThrows(String call, Edges.UseOfNumber reading) {
        for (int length : new int[] {-1, 21, 600, 601, Edges.LEAST, Edges.MOST}) {
            Edges.throwsAndKeeps(call + "(" + length + ")", Edges.ILLEGAL_ARGUMENT, Edges::busyAndFed, x -> reading.of(x, length));
        }
        for (int length : new int[] {-1, 1, Edges.LEAST, Edges.MOST}) {
            Edges.throwsAndKeeps("empty: " + call + "(" + length + ")", Edges.ILLEGAL_ARGUMENT, Edges::busy,
                    x -> reading.of(x, length));
        }
    }

    private static void errorPositionOf() {
        Edges.sentence("Returns the position of the error of the most recent call of load or play that read the buffer");
        StrikeWheels x = new StrikeWheels();
        Check.load(x, "sieve 1;stretch 401;");
        Check.same("of load", x.errorPosition(), 16);
        Check.illegalArgument("load that throws", () -> x.load(1));
        Check.illegalArgument("play that throws", () -> x.play(-1));
        Check.same("a call that throws did not read", x.errorPosition(), 16);
        Check.play(x, "drop;oh");
        Check.same("of play", x.errorPosition(), 5);
        x.lay(4);
        x.lift(9);
        x.undo();
        x.saveSnapshot();
        x.restoreSnapshot();
        Check.same("no other call has one", x.errorPosition(), 5);
        Check.same("a feed reads nothing", x.feed(0, 0, 0, 0, 0), 20);
        Check.same("behind feed", x.errorPosition(), 5);
        Check.load(x, "");
        Check.same("at position 0", x.errorPosition(), 0);
    }

    private static void errorPositionNone() {
        Edges.sentence("NONE if that call had no error, or there was no such call");
        StrikeWheels x = new StrikeWheels();
        Check.same("no such call", x.errorPosition(), -1);
        Check.illegalArgument("a call that throws is none", () -> x.load(1));
        Check.same("still no such call", x.errorPosition(), -1);
        Check.load(x, "oh");
        Check.load(x, "sieve 1;");
        Check.same("load without an error", x.errorPosition(), -1);
        Check.load(x, "oh");
        Check.play(x, "drop;");
        Check.same("play without an error, its order refused", x.errorPosition(), -1);
        Check.play(x, "oh");
        Check.play(x, "");
        Check.same("play of nothing", x.errorPosition(), -1);
    }
}
